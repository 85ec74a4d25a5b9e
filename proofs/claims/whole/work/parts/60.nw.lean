/-! constructors: a new cell stands at the heap's end; all addresses are counted from one base -/
def nA (b k : Nat) : Nat := b + k
def nAt (b k : Nat) : Nat → Nat := fun j => nA b (k + j)
def nF (b k : Nat) : Nat → Prop := fun q => nA b k ≤ q
def nwN : List Cond := [.methodLinkNest RX8 21 yX6_init "CaseOrder", .methodLinkNest RX11 9 yX7_init "CaseOrder", .methodLinkNest RX11 18 yX3_init "CaseOrder", .methodLinkNest RX1 11 yX4_init "CaseOrder"]
/-- what constructors take from the start: two tokens, the nest's words, the classes of rows -/
def STN (z : Nat) (adE : Nat → Nat) (U : State) (H : Heap) : Prop :=
  va_Z "CaseOrder$Token" "ON" "LCaseOrder$Token;" (.ref (adE 0)) (fun q => z ≤ q) U H ∧ va_Z "CaseOrder$Token" "END" "LCaseOrder$Token;" (.ref (adE 11)) (fun q => z ≤ q) U H ∧ va_O "CaseOrder$Token" (adE 11) (fun q => z ≤ q) U H ∧ (∀ w ∈ nwN, va_Nw w U) ∧ va_AO RX8 U ∧ va_AO RX6 U ∧ va_AO RX9 U
theorem nwN_warm {s U : State} (hW : s.WarmedH U.vm) (h : ∀ w ∈ nwN, va_Nw w s) : ∀ w ∈ nwN, va_Nw w U := by
  intro w hw
  have h1 := h w hw
  simp only [nwN, List.mem_cons, List.not_mem_nil, or_false] at hw
  rcases hw with rfl | rfl | rfl | rfl <;> exact va_Nw.warmM hW h1
theorem STN_warm {z : Nat} {adE : Nat → Nat} {u U : State} {H : Heap} (hW : u.WarmedH U.vm) (h : STN z adE u H) : STN z adE U H :=
  ⟨va_Z.moved hW.alike h.1, va_Z.moved hW.alike h.2.1, va_O.moved hW.alike h.2.2.1, nwN_warm hW h.2.2.2.1, va_AO.moved hW.alike h.2.2.2.2.1, va_AO.moved hW.alike h.2.2.2.2.2.1, va_AO.moved hW.alike h.2.2.2.2.2.2⟩
theorem STN_kept {z : Nat} {adE : Nat → Nat} {U : State} {H H1 : Heap} (hk : ∀ a : Nat, a < H.size → ¬ z ≤ a → H1[a]? = H[a]?) (h : STN z adE U H) : STN z adE U H1 :=
  ⟨h.1.kept hk, h.2.1.kept hk, h.2.2.1.kept hk, h.2.2.2⟩
def NPre (D : va_G) (tys : List (ClassId × FieldType)) (z : Nat) (adE : Nat → Nat) (b k : Nat) (x0 : va_E) (av : List Value) : Array Value → State → Prop :=
  va_Pc av (fun U => U.heap.size = nA b k + 1 ∧ va_P D vwCl (wls (nAt b k) [x0]) U.heap ∧ va_K D vwCl tys U ∧ STN z adE U U.heap)
def CTN (l : Launch) (y : MethodName) (ws : List Cond) (rm : Room) (D : va_G) (tys : List (ClassId × FieldType)) (z : Nat) (adE : Nat → Nat) (b k : Nat) (x0 : va_E) (ce' : List va_E) (av : List Value) (mc ms : Nat) : Prop :=
  Met l y ws rm (NPre D tys z adE b k x0 av) (va_Qv (fun (_ : Unit) => True) (fun _ t => va_P D vwCl (wls (nAt b k) ce') t.heap) (nF b k)) mc ms (nF b k)
theorem NPre_blind {D : va_G} {tys : List (ClassId × FieldType)} {z : Nat} {adE : Nat → Nat} {b k : Nat} {x0 : va_E} {av : List Value} : FrameBlind (NPre D tys z adE b k x0 av) := by
  intro a U g mk q
  obtain ⟨q0, q1, qP, qK, qS⟩ := q
  exact ⟨q0, q1, qP, va_K.moved (u := U) (U := U.calling g mk a) (Vm.Alike.refl U.vm) qK, STN_warm (u := U) (U := U.calling g mk a) (State.WarmedH.refl U) qS⟩
theorem n_D {b k : Nat} {ce : List va_E} : va_D (nF b k) (wls (nAt b k) ce) := by
  refine ⟨fun i j p q hi hj hpq => ?_, fun i q hi => ?_⟩
  · have h1 := (wls_ad hi).2
    have h2 := (wls_ad hj).2
    rw [h1, h2] at hpq
    simp only [nAt, nA] at hpq
    omega
  · have h1 := (wls_ad hi).2
    rw [h1]
    show nA b k ≤ nA b (k + i)
    simp only [nA]
    omega
theorem wls_app2 {ad : Nat → Nat} (F G : List va_E) : wls ad (F ++ G) = wls ad F ++ wls (fun j => ad (F.length + j)) G := by
  simp only [wls, List.mapIdx_append]
  congr 2
  funext i x
  rw [Nat.add_comm]
theorem wls_at {b k n : Nat} {F : List va_E} (hn : F.length = n) (G : List va_E) : wls (nAt b k) (F ++ G) = wls (nAt b k) F ++ wls (nAt b (k + n)) G := by
  rw [wls_app2, hn]
  have : (fun j => nAt b k (n + j)) = nAt b (k + n) := by
    funext j
    simp only [nAt, nA]
    omega
  rw [this]
section NW
variable {p : Program} {l : Launch} {e : Env} {R : Room} {s : State} {m : MethodId} {args : Array Value} {below : List Frame} {meth : Method} {c : Code} {H : Heap} {locs : List Loc} {cells slots : Nat} {Q : State → Prop}
variable {cc : ByteArray} {pc : Nat} {ls : Array Slot} {rest : List Value} {D : va_G} {tys : List (ClassId × FieldType)} {b k z : Nat} {adE : Nat → Nat} {ce : List va_E} {d : Nat}
theorem n_sz {g : JFrame} (hsz : s.heap.size = nA b k + d) (hw : Wo D (nAt b k) (nF b k) ce s.heap H locs) (hc : ce.length = cells + d) (kk : H.size = nA b k + ce.length → W p l e R s m args below meth c H locs cells slots Q g) : W p l e R s m args below meth c H locs cells slots Q g := by
  intro T hT X
  have h1 := X.heapSize
  rw [hT] at h1
  have h4 := hw.2.2.1
  by_cases hlt : ce.length = 0
  · exact kk (by simp only [nA] at hsz ⊢; omega) T hT X
  · have hlt : ce.length - 1 < ce.length := by omega
    have h2 := (hw.1 (ce.length - 1) _ (wls_get (ce.length - 1) (List.getElem?_eq_getElem hlt))).lt
    have h3 : nA b (k + (ce.length - 1)) < H.size := h2
    exact kk (by simp only [nA] at h3 hsz ⊢; omega) T hT X
/-- a new cell behind the others -/
theorem n_push {x : va_E} {H1 : Heap} (hw : Wo D (nAt b k) (nF b k) ce s.heap H locs) (n : Nat) (hn : ce.length = n) (hz : H.size = nA b (k + n)) (hx : va_at D vwCl (nA b (k + n), x) H1) (hz1 : H1.size = nA b (k + n) + 1) (ho : ∀ q : Nat, q < nA b (k + n) → H1[q]? = H[q]?) : Wo D (nAt b k) (nF b k) (ce ++ [x]) s.heap H1 locs := by
  refine ⟨?_, n_D, ?_⟩
  · rw [wls_at hn]
    refine (hw.1.kept (fun i q hi => ho q.1 ?_)).app (fun i q hi => ?_)
    · rw [← hz]; exact (hw.1 i q hi).lt
    · obtain ⟨h1, -⟩ := wls_ad hi
      have h2 : i = 0 := by simp at h1; exact h1
      subst h2
      rw [wls_get (x := x) 0 rfl] at hi
      cases hi
      exact hx
  · obtain ⟨a, c, d⟩ := hw.2.2
    exact ⟨by rw [hz1, ← hz]; omega, fun q h1 h2 => (ho q (by rw [← hz]; omega)).trans (c q h1 h2), d⟩
theorem n_new (hexec : p.tables.exec = Jvm.exec) (hb : c.code = cc) {own C : String} {T : u_T} {N ci index : Nat} {Ts : List Cond} (hts : ∀ w ∈ Ts, w.before args s = true) (hin : ∀ w ∈ u_ws C T N, w ∈ Ts) (ty : Nat → FieldType) (hty : ∀ k, k < N → parseFieldDescriptor (T k).2.2.1 = some (ty k)) (hown : s.vm.findClass own = some m.cls) (hcl : (Cond.classLink own index C).before args s = true) (hinst : (Cond.instantiable C N).before args s = true) (hini : (Cond.initialized C).before args s = true)
    (hK : va_K D vwCl tys s) (hsz : s.heap.size = nA b k + d) (hw : Wo D (nAt b k) (nF b k) ce s.heap H locs) (n : Nat) (hn : ce.length = n) (hc : n = cells + d) (hc0 : vwCl[ci]? = some (C, T, N)) {fs : List Value} (hfs : ∀ j, j < N → defaultValue (ty j) = vp_V fs j) (hcells : cells + 1 ≤ R.cells) (hslots : slots + N ≤ R.slots) (hdg : decode cc pc = .ok (.new index, 3))
    (kk : ∀ (H1 : Heap), Wo D (nAt b k) (nF b k) (ce ++ [.inr (ci, fs)]) s.heap H1 locs → W p l e R s m args below meth c H1 locs (cells + 1) (slots + N) Q (F0 m (pc + 3) ls (.ref (nA b (k + n)) :: rest))) : W p l e R s m args below meth c H locs cells slots Q (F0 m pc ls rest) := by
  have hKn := hK.1 ci _ hc0
  refine n_sz hsz hw (by omega) (fun hz => ?_)
  have hz : H.size = nA b (k + n) := by rw [hz, hn]; simp only [nA]; omega
  refine W.newcK (h := nA b (k + n)) hexec hb hown hcl hinst hini rfl hdg hcells hslots hKn.2.1 hz fun H1 kC hkC e1 z1 o1 => ?_
  exact kk H1 (n_push hw n hn hz ⟨_, hc0, (u_born ty hts hin hKn hkC e1 hty).to hfs⟩ z1 o1)
theorem n_newa (hexec : p.tables.exec = Jvm.exec) (hb : c.code = cc) {atype : ArrayType} (harr : (Cond.arrayClass (newarray.typeOf atype)).before args s = true) {ty : FieldType} (hty : newarray.typeOf atype = ty) (hK : va_K D vwCl tys s) (t0 : Nat) {cY : ClassId} (ht : tys[t0]? = some (cY, ty)) (hr : va_RA s cY ty → s.vm.findClass ("[" ++ ty.toString) = some cY) (hsz : s.heap.size = nA b k + d) (hw : Wo D (nAt b k) (nF b k) ce s.heap H locs) (n : Nat) (hn : ce.length = n) (hc : n = cells + d)
    {v : Int32} {N' : Nat} {a0 : vp_A} (ha : ∀ cA : ClassId, vp_cell cA a0 = arrV cA N' (fun _ => defaultValue ty)) (hv : ¬ v < 0) (hN : v.toNatClampNeg = N') (hbytes : N' * componentBytes ty ≤ 536870912) (hcells : cells + 1 ≤ R.cells) (hslots : slots + N' ≤ R.slots) (hdg : decode cc pc = .ok (.newarray atype, 2))
    (kk : ∀ (H1 : Heap), Wo D (nAt b k) (nF b k) (ce ++ [.inl (cY, a0)]) s.heap H1 locs → W p l e R s m args below meth c H1 locs (cells + 1) (slots + N') Q (F0 m (pc + 2) ls (.ref (nA b (k + n)) :: rest))) : W p l e R s m args below meth c H locs cells slots Q (F0 m pc ls (.int v :: rest)) := by
  subst hty
  refine n_sz hsz hw (by omega) (fun hz => ?_)
  have hz : H.size = nA b (k + n) := by rw [hz, hn]; simp only [nA]; omega
  refine va_newaK (h := nA b (k + n)) hexec hb harr rfl hdg rfl hv hN hbytes hcells hslots hz fun H1 cA e1 z1 o1 hAr hNm => ?_
  have hcA : cA = cY := Option.some.inj (hNm.symm.trans (hr (hK.2 t0 _ ht).2))
  subst hcA
  refine kk H1 (n_push hw n hn hz ?_ z1 o1)
  show H1[nA b (k + n)]? = some (vp_cell _ _)
  rw [ha]
  exact e1
theorem n_newq (hexec : p.tables.exec = Jvm.exec) (hb : c.code = cc) {own C : String} {index : Nat} (hown : s.vm.findClass own = some m.cls) (hclink : (Cond.classLink own index C).before args s = true) (hover : va_AO C s) (hK : va_K D vwCl tys s) (t0 : Nat) {cY : ClassId} (ht : tys[t0]? = some (cY, .object C)) (hsz : s.heap.size = nA b k + d) (hw : Wo D (nAt b k) (nF b k) ce s.heap H locs) (n : Nat) (hn : ce.length = n) (hc : n = cells + d)
    {v : Int32} {N' : Nat} (hv : ¬ v < 0) (hN : v.toNatClampNeg = N') (hbytes : N' * 4 ≤ 536870912) (hcells : cells + 1 ≤ R.cells) (hslots : slots + N' ≤ R.slots) (hdg : decode cc pc = .ok (.anewarray index, 3))
    (kk : ∀ (H1 : Heap), Wo D (nAt b k) (nF b k) (ce ++ [.inl (cY, N', .inr (.inr (.inr (.inr (fun _ => none)))))]) s.heap H1 locs → W p l e R s m args below meth c H1 locs (cells + 1) (slots + N') Q (F0 m (pc + 3) ls (.ref (nA b (k + n)) :: rest))) : W p l e R s m args below meth c H locs cells slots Q (F0 m pc ls (.int v :: rest)) := by
  subst hN
  refine n_sz hsz hw (by omega) (fun hz => ?_)
  have hz : H.size = nA b (k + n) := by rw [hz, hn]; simp only [nA]; omega
  refine W.anew hexec hb hown hclink (va_AO.use hover) rfl hdg rfl hv hbytes hcells hslots fun cA kA comp f1 f2 f3 f4 => ?_
  have hcA : cA = cY := by
    obtain ⟨kA', comp', g1, g2, g3, g4⟩ := (hK.2 t0 _ ht).2
    exact Option.some.inj (f1.symm.trans g4)
  subst hcA
  generalize hH1 : H.push ({ cls := cA, slots := Array.replicate v.toNatClampNeg .null, vm := .none } : Cell) = H1
  have z1 : H1.size = H.size + 1 := by rw [← hH1, Array.size_push]
  have e1 : H1[H.size]? = some (arrV cA v.toNatClampNeg (fun _ => .null)) := by rw [← hH1, Array.getElem?_push_size, ← arrV_new]
  have o1 : ∀ q : Nat, q < H.size → H1[q]? = H[q]? := fun q hq => by rw [← hH1, Array.getElem?_push, if_neg (Nat.ne_of_lt hq)]
  rw [hz] at z1 e1 o1
  have K := kk H1 (n_push hw n hn hz (by show H1[nA b (k + n)]? = some (vp_cell _ _); rw [vp_cell_q]; exact e1) z1 o1)
  rw [← hz] at K
  exact K
theorem g_putF (hexec : p.tables.exec = Jvm.exec) (hb : c.code = cc) {ad : Nat → Nat} {A : Nat → Prop} {H0 : Heap} {own ref C : String} {T : u_T} {N ci index : Nat} {Ts : List Cond} (hts : ∀ w ∈ Ts, w.before args s = true) (hin : ∀ w ∈ u_ws C T N, w ∈ Ts) (ty0 : Nat → FieldType) (hty : ∀ k, k < N → parseFieldDescriptor (T k).2.2.1 = some (ty0 k)) (hnm : ∀ a, a < N → ∀ b, b < N → a ≠ b → (T a).2.1 ≠ (T b).2.1) (hown : s.vm.findClass own = some m.cls) (hK : va_K D vwCl tys s) (hw : Wo D ad A ce H0 H locs) (q0 : Nat) {fs : List Value} (he : ce[q0]? = some (.inr (ci, fs))) (hc : vwCl[ci]? = some (C, T, N)) (k : Nat) (hk : k < N) (hlink : (Cond.fieldLink own index ref (T k).2.1 (T k).2.2.1).before args s = true) (hsame : ∀ x, s.fieldFound? (T k).1 (T k).2.1 (T k).2.2.1 = some x → s.fieldFound? ref (T k).2.1 (T k).2.2.1 = some x) (hfin : (T k).2.2.2 = true) (hin2 : meth.name = "<init>") (hdecl : (T k).1 = own) {ty : FieldType} {v : Value} (hd : parseFieldDescriptor (T k).2.2.1 = some ty) (hn : narrow ty v = v) (hfit : fits ty v = true) (hl : k < fs.length)
    (hdg : decode cc pc = .ok (.putfield index, 3)) (kk : ∀ (H1 : Heap) (locs1 : List Loc), Wo D ad A (ce.set q0 (.inr (ci, fs.set k v))) H0 H1 locs1 → W p l e R s m args below meth c H1 locs1 cells slots Q (F0 m (pc + 3) ls rest)) : W p l e R s m args below meth c H locs cells slots Q (F0 m pc ls (v :: .ref (ad q0) :: rest)) :=
  va_putF hexec hb hts hin ty0 hty hnm hown hK hw.1 hw.2.1 hw.2.2 q0 (wls_get q0 he) hc k hk hlink hsame hfin hin2 hdecl hd hn hfit hl hdg (fun H1 locs1 a b c => kk H1 locs1 ⟨by rw [wls_set] at a; exact a, by rw [wls_set] at b; exact b, c⟩)
theorem q_ext {cA : ClassId} {n : Nat} {f f' : Nat → Option Nat} (h : ∀ j, j < n → f j = f' j) : vp_cell cA (n, .inr (.inr (.inr (.inr f)))) = vp_cell cA (n, .inr (.inr (.inr (.inr f')))) := by
  rw [vp_cell_q, vp_cell_q]
  unfold arrV
  congr 2
  funext j
  show va_rf (f j.val) = va_rf (f' j.val)
  rw [h j.val j.isLt]
theorem n_ext {ad : Nat → Nat} {A : Nat → Prop} {H0 : Heap} (hw : Wo D ad A ce H0 H locs) (q0 : Nat) {cA : ClassId} {n : Nat} {f f' : Nat → Option Nat} (ha : ce[q0]? = some (.inl (cA, n, .inr (.inr (.inr (.inr f)))))) (h : ∀ j, j < n → f j = f' j) : Wo D ad A (ce.set q0 (.inl (cA, n, .inr (.inr (.inr (.inr f')))))) H0 H locs := by
  refine ⟨fun i q hi => ?_, wls_D hw.2.1 List.length_set, hw.2.2⟩
  rw [← wls_set, List.getElem?_set] at hi
  by_cases hq : q0 = i
  · subst hq
    rw [if_pos rfl] at hi
    split at hi
    · cases hi
      have h1 := hw.1 q0 _ (wls_get q0 ha)
      show H[ad q0]? = some (vp_cell _ _)
      rw [← q_ext h]
      exact h1
    · cases hi
  · rw [if_neg hq] at hi
    exact hw.1 i q hi
theorem n_ST (hz : z ≤ nA b k) (hst : STN z adE s s.heap) (hw : Wo D (nAt b k) (nF b k) ce s.heap H locs) : STN z adE s H :=
  STN_kept (fun a h1 h2 => hw.2.2.2.1 a h1 (fun h3 => h2 (Nat.le_trans hz h3))) hst
variable {y : MethodName} {bytes : ByteArray} {maxL nL nn index : Nat} {ws : List Cond} {rm : Room} {Ts : List Cond} {own host : String} {As : List Value} {ce' F : List va_E} {st0 : List Value} {x0 : va_E} {mc ms n : Nat}
theorem n_pre {av : List Value} (hz : z ≤ nA b k) (hst : STN z adE s s.heap) (hK : va_K D vwCl tys s) (hw : Wo D (nAt b k) (nF b k) (F ++ [x0]) s.heap H locs) (hn : F.length = n) (hz1 : H.size = nA b k + (F ++ [x0]).length) (U : State) (hU : U.heap = H) (hW : s.WarmedH U.vm) : NPre D tys z adE b (k + n) x0 av av.toArray U := by
  refine ⟨rfl, ?_, ?_, va_K.moved hW.alike hK, ?_⟩
  · rw [hU, hz1, List.length_append, hn]
    simp only [nA, List.length_cons, List.length_nil]
    omega
  · rw [hU]
    intro i q hi
    obtain ⟨h1, -⟩ := wls_ad hi
    have h2 : i = 0 := by simp at h1; exact h1
    subst h2
    rw [wls_get (x := x0) 0 rfl] at hi
    cases hi
    exact hw.1 n (nA b (k + n), x0) (wls_get (ad := nAt b k) n (by rw [List.getElem?_append_right (by omega), hn, Nat.sub_self]; rfl))
  · rw [hU]
    exact STN_warm hW (n_ST hz hst hw)
theorem n_join {H1 : Heap} {locs1 : List Loc} (hw : Wo D (nAt b k) (nF b k) (F ++ [x0]) s.heap H locs) (hn : F.length = n) (hk : ∀ q : Nat, q < H.size → ¬ nF b (k + n) q → H1[q]? = H[q]?) (hB : va_P D vwCl (wls (nAt b (k + n)) ce') H1) (hS : va_S (nF b k) s.heap H1 locs1) : Wo D (nAt b k) (nF b k) (F ++ ce') s.heap H1 locs1 := by
  refine ⟨?_, n_D, hS⟩
  rw [wls_at hn]
  have hF : va_P D vwCl (wls (nAt b k) F) H := by
    have h := hw.1
    rw [wls_at hn] at h
    exact fun i q hi => h i q (by rw [List.getElem?_append_left (List.getElem?_eq_some_iff.mp hi).1]; exact hi)
  refine (hF.kept (fun i q hi => hk q.1 (hF i q hi).lt ?_)).app hB
  obtain ⟨h1, h2⟩ := wls_ad hi
  rw [h2]
  simp only [nF, nAt, nA]
  omega
theorem nF_up {q : Nat} (h : nF b (k + n) q) : nF b k q := by
  simp only [nF, nA] at h ⊢
  omega
theorem n_I (S : CallFix p m c cc nL s args Ts own) (hM : CTN l y ws rm D tys z adE b (k + n) x0 ce' (.ref (nA b (k + n)) :: As) mc ms) (cw : CallB R s args own index y bytes maxL none ws rm mc ms nn ∧ y.name = "<init>" ∧ (Cond.instanceMethod y).before args s = true) (hz : z ≤ nA b k) (hst : STN z adE s s.heap) (hK : va_K D vwCl tys s) (hsz : s.heap.size = nA b k + d) (hw : Wo D (nAt b k) (nF b k) (F ++ [x0]) s.heap H locs) (hn : F.length = n) (hc : n + 1 = cells + d) (hnn : As.length = nn) (hsize : ls.size = nL) (hs0 : st0 = As.reverse ++ .ref (nA b (k + n)) :: rest) (hroom : (rest.map fun v => v.category).sum ≤ 8) (hdg : decode cc pc = .ok (.invokespecial index, 3)) (hcs : cells + mc ≤ R.cells ∧ slots + ms ≤ R.slots)
    (kk : ∀ (H1 : Heap) (locs1 : List Loc), Wo D (nAt b k) (nF b k) (F ++ ce') s.heap H1 locs1 → W p l e R s m args below meth c H1 locs1 (cells + mc) (slots + ms) Q (F0 m (pc + 3) ls rest)) : W p l e R s m args below meth c H locs cells slots Q (F0 m pc ls st0) := by
  refine n_sz hsz hw (by rw [List.length_append, hn]; exact hc) (fun hz1 => ?_)
  refine va_callv (va_runI (rest := rest) S hM cw ⟨NPre_blind, n_pre hz hst hK hw hn hz1⟩ rfl hnn hsize hs0 (lv_room hroom) hdg hcs) hw.2.2 (fun q _ h => nF_up h) (fun q h => nF_up h) (fun u t H1 locs1 ht hvm hp hB hz hk hS => ?_)
  exact kk H1 locs1 (n_join hw hn hk (by rw [← ht]; exact hB) hS)
theorem n_IN (S : CallFix p m c cc nL s args Ts own) (hM : CTN l y ws rm D tys z adE b (k + n) x0 ce' (.ref (nA b (k + n)) :: As) mc ms) (cw : va_CN R s args own index y host bytes maxL none ws rm mc ms nn ∧ y.name = "<init>" ∧ (Cond.instanceMethod y).before args s = true) (hz : z ≤ nA b k) (hst : STN z adE s s.heap) (hK : va_K D vwCl tys s) (hsz : s.heap.size = nA b k + d) (hw : Wo D (nAt b k) (nF b k) (F ++ [x0]) s.heap H locs) (hn : F.length = n) (hc : n + 1 = cells + d) (hnn : As.length = nn) (hsize : ls.size = nL) (hs0 : st0 = As.reverse ++ .ref (nA b (k + n)) :: rest) (hroom : (rest.map fun v => v.category).sum ≤ 8) (hdg : decode cc pc = .ok (.invokespecial index, 3)) (hcs : cells + mc ≤ R.cells ∧ slots + ms ≤ R.slots)
    (kk : ∀ (H1 : Heap) (locs1 : List Loc), Wo D (nAt b k) (nF b k) (F ++ ce') s.heap H1 locs1 → W p l e R s m args below meth c H1 locs1 (cells + mc) (slots + ms) Q (F0 m (pc + 3) ls rest)) : W p l e R s m args below meth c H locs cells slots Q (F0 m pc ls st0) := by
  refine n_sz hsz hw (by rw [List.length_append, hn]; exact hc) (fun hz1 => ?_)
  refine va_callv (va_runIN (rest := rest) S hM cw ⟨NPre_blind, n_pre hz hst hK hw hn hz1⟩ rfl hnn hsize hs0 (lv_room hroom) hdg hcs) hw.2.2 (fun q _ h => nF_up h) (fun q h => nF_up h) (fun u t H1 locs1 ht hvm hp hB hz hk hS => ?_)
  exact kk H1 locs1 (n_join hw hn hk (by rw [← ht]; exact hB) hS)
theorem n_start (hP : va_P D vwCl (wls (nAt b k) [x0]) s.heap) : Wo D (nAt b k) (nF b k) [x0] s.heap s.heap [] := ⟨hP, n_D, va_S.rf⟩
theorem n_end (hw : Wo D (nAt b k) (nF b k) ce' s.heap H locs) (t : State) (ht : t.heap = H) : va_Qv (fun (_ : Unit) => True) (fun _ t => va_P D vwCl (wls (nAt b k) ce') t.heap) (nF b k) args s (.returned none) t :=
  ⟨⟨(), rfl, trivial, by subst ht; exact hw.1⟩, hw.2.2.F ht⟩
end NW
