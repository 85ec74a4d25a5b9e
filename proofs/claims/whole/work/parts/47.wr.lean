/-! the law's wrappers: a call of the class, its answer into the row 'out', or the number of its throw -/
def oL (oc : ClassId) (o : Nat → Int64) : va_E := .inl (oc, 1, .inr (.inl o))
def AL (ad : Nat → Nat) (n ao sz : Nat) (q : Nat) : Prop := Aw ad n sz q ∨ q = ao
def LPre (D : va_G) (ad : Nat → Nat) (tys : List (ClassId × FieldType)) (ST : State → Heap → Prop) (ce : List va_E) (ao : Nat) (oc : ClassId) (o : Nat → Int64) (sz : Nat) (av : List Value) : Array Value → State → Prop :=
  va_Pc av (fun U => U.heap.size = sz ∧ va_P D vwCl ((ao, oL oc o) :: wls ad ce) U.heap ∧ va_K D vwCl tys U ∧ va_D (fun _ => True) ((ao, oL oc o) :: wls ad ce) ∧ ST U U.heap)
def CTL (l : Launch) (y : MethodName) (ws : List Cond) (rm : Room) (D : va_G) (ad : Nat → Nat) (n : Nat) (tys : List (ClassId × FieldType)) (ST : State → Heap → Prop) (ce : List va_E) (ao : Nat) (oc : ClassId) (o : Nat → Int64) (av : List Value) (r : Int32 × List va_E × (Nat → Int64)) : Prop :=
  ∀ sz, Met l y ws rm (LPre D ad tys ST ce ao oc o sz av) (va_Qi (fun x (_ : Unit) => x = r.1) (fun _ t => va_P D vwCl ((ao, oL oc r.2.2) :: wls ad r.2.1) t.heap) (AL ad n ao sz)) 1 6 (AL ad n ao sz)
/-- what a wrapper makes of what the class did -/
def wrO (k1 k2 : Int32) (res : ResX) (o : Nat → Int64) : Int32 × List va_E × (Nat → Int64) := match res with
  | .inl r => (0, r.2, vp_updL o 0 r.1.toInt64)
  | .inr r => (if r.1 = exI then k1 else k2, r.2, o)
section LW
variable {p : Program} {l : Launch} {e : Env} {R : Room} {s : State} {m : MethodId} {args : Array Value} {below : List Frame} {meth : Method} {c : Code} {H : Heap} {locs : List Loc} {cells slots : Nat} {Q : State → Prop}
variable {cc : ByteArray} {pc : Nat} {ls : Array Slot} {rest : List Value} {D : va_G} {tys : List (ClassId × FieldType)} {ad : Nat → Nat} {ce : List va_E} {ao n : Nat} {oc : ClassId} {o : Nat → Int64}
/-- the heap in a wrapper's walk -/
def Wl (D : va_G) (ad : Nat → Nat) (n ao : Nat) (oc : ClassId) (ce : List va_E) (o : Nat → Int64) (H0 H : Heap) (locs : List Loc) : Prop :=
  va_P D vwCl ((ao, oL oc o) :: wls ad ce) H ∧ va_D (AL ad n ao H0.size) ((ao, oL oc o) :: wls ad ce) ∧ va_S (AL ad n ao H0.size) H0 H locs
theorem wls_ad {k : Nat} {q : Nat × va_E} (h : (wls ad ce)[k]? = some q) : k < ce.length ∧ q.1 = ad k := by
  simp only [wls, List.getElem?_mapIdx] at h
  cases h1 : ce[k]? with
  | none => rw [h1] at h; cases h
  | some x =>
    rw [h1] at h
    cases h
    exact ⟨(List.getElem?_eq_some_iff.mp h1).1, rfl⟩
theorem P_tl {x : Nat × va_E} {ws : va_W} (h : va_P D vwCl (x :: ws) H) : va_P D vwCl ws H := fun k q hk => h (k + 1) q hk
theorem P_hd {x : Nat × va_E} {ws : va_W} (h : va_P D vwCl (x :: ws) H) : va_P D vwCl [x] H := by
  intro k q hk
  have h1 := (List.getElem?_eq_some_iff.mp hk).1
  simp at h1
  subst h1
  exact h 0 q hk
theorem P_cons {x : Nat × va_E} {ws : va_W} (h1 : va_P D vwCl [x] H) (h2 : va_P D vwCl ws H) : va_P D vwCl (x :: ws) H := by
  intro k q hk
  cases k with
  | zero => exact h1 0 q hk
  | succ k => exact h2 k q hk
theorem D_tl {A : Nat → Prop} {x : Nat × va_E} {ws : va_W} (h : va_D A (x :: ws)) : va_D A ws := ⟨fun i j p q hi hj hpq => by have := h.1 (i + 1) (j + 1) p q hi hj hpq; omega, fun k q hk => h.2 (k + 1) q hk⟩
theorem D_re {A : Nat → Prop} {x x' : va_E} {ce' : List va_E} (h : va_D A ((ao, x) :: wls ad ce)) (hn : ce'.length = ce.length) : va_D A ((ao, x') :: wls ad ce') := by
  have key : ∀ (k : Nat) (q : Nat × va_E), ((ao, x') :: wls ad ce')[k]? = some q → ∃ z : va_E, ((ao, x) :: wls ad ce)[k]? = some (q.1, z) := by
    intro k q hq
    cases k with
    | zero => cases hq; exact ⟨x, rfl⟩
    | succ k =>
      obtain ⟨h1, h2⟩ := wls_ad (show (wls ad ce')[k]? = some q from hq)
      refine ⟨ce[k]'(by omega), ?_⟩
      show (wls ad ce)[k]? = _
      rw [h2]
      exact wls_get k (List.getElem?_eq_getElem (by omega))
  refine ⟨fun i j p q hi hj hpq => ?_, fun k q hk => ?_⟩
  · obtain ⟨z, hz⟩ := key i p hi
    obtain ⟨z', hz'⟩ := key j q hj
    exact h.1 i j _ _ hz hz' hpq
  · obtain ⟨z, hz⟩ := key k q hk
    exact h.2 k (q.1, z) hz
theorem ao_ne {A : Nat → Prop} {x : va_E} (h : va_D A ((ao, x) :: wls ad ce)) : ¬ inW ad ce.length ao := by
  rintro ⟨k, hk, e⟩
  have := h.1 0 (k + 1) (ao, x) (ad k, ce[k]) rfl (wls_get k (List.getElem?_eq_getElem hk)) e
  omega
theorem g_lastL (hexec : p.tables.exec = Jvm.exec) (hb : c.code = cc) (hK : va_K D vwCl tys s) {H0 : Heap} (hw : Wl D ad n ao oc ce o H0 H locs) (t0 : Nat) (ht : tys[t0]? = some (oc, .long)) {x : Int64} (hdg : decode cc pc = .ok (.lastore, 1))
    (kk : ∀ (H1 : Heap) (locs1 : List Loc), Wl D ad n ao oc ce (vp_updL o 0 x) H0 H1 locs1 → W p l e R s m args below meth c H1 locs1 cells slots Q (F0 m (pc + 1) ls rest)) : W p l e R s m args below meth c H locs cells slots Q (F0 m pc ls (.long x :: .int 0 :: .ref ao :: rest)) :=
  va_last (a := ao) hexec hb hK hw.1 hw.2.1 hw.2.2 0 t0 rfl ht (i := 0) (show vp_in (nI 0) 1 from vp_in_nI (by omega) (by omega)) hdg (fun H1 locs1 a b c => kk H1 locs1 ⟨a, b, c⟩)
theorem g_endL {r : Int32} (hw : Wl D ad n ao oc ce o s.heap H locs) (t : State) (ht : t.heap = H) : va_Qi (fun x (_ : Unit) => x = r) (fun _ t => va_P D vwCl ((ao, oL oc o) :: wls ad ce) t.heap) (AL ad n ao s.heap.size) args s (.returned (some (.int r))) t :=
  ⟨⟨r, (), rfl, rfl, by subst ht; exact hw.1⟩, hw.2.2.F ht⟩
variable {y : MethodName} {bytes : ByteArray} {maxL nL nn index : Nat} {ret : Option FieldType} {ws : List Cond} {rm : Room} {Ts : List Cond} {own C : String} {b : Nat} {As : List Value} {ST : State → Heap → Prop} {st0 : List Value}
theorem AL_up {q : Nat} (h : Aw ad n s.heap.size q) : AL ad n ao s.heap.size q := Or.inl h
theorem Wl_call {ce' : List va_E} {H1 : Heap} {locs1 : List Loc} (hn : ce.length = n) (hn' : ce'.length = n) (hw : Wl D ad n ao oc ce o s.heap s.heap []) (hB : va_P D vwCl (wls ad ce') H1) (hk : ∀ q : Nat, q < s.heap.size → ¬ Aw ad n s.heap.size q → H1[q]? = s.heap[q]?) (hS : va_S (AL ad n ao s.heap.size) s.heap H1 locs1) : Wl D ad n ao oc ce' o s.heap H1 locs1 := by
  have hlt : ao < s.heap.size := vx_lt hw.1 (k := 0) rfl
  have hno : ¬ Aw ad n s.heap.size ao := by
    rintro (z | z)
    · rw [← hn] at z; exact ao_ne hw.2.1 z
    · omega
  refine ⟨P_cons ((P_hd hw.1).kept (fun k q hq => ?_)) hB, D_re hw.2.1 (hn'.trans hn.symm), hS⟩
  have h1 := (List.getElem?_eq_some_iff.mp hq).1
  simp at h1
  subst h1
  cases hq
  exact hk ao hlt hno
theorem g_callX {res : ResX} (S : CallFix p m c cc nL s args Ts own) (hM : CTX l y ws rm D ad n tys ST ce (.ref (ad b) :: As) res) (cw : CallW R s args own C index y bytes maxL ret ws rm 1 6 nn) (hST : STok ad n ST) (hst : ST s s.heap) (hK : va_K D vwCl tys s) (hn : ce.length = n) (hw : Wl D ad n ao oc ce o s.heap s.heap [])
    {ci : Nat} {fs : List Value} (he : ce[b]? = some (.inr (ci, fs))) {T : u_T} {N : Nat} (hc : vwCl[ci]? = some (C, T, N)) (hnn : As.length = nn) (hsize : ls.size = nL) (hs0 : st0 = As.reverse ++ .ref (ad b) :: rest) (hroom : (rest.map fun v => v.category).sum ≤ 8) (hdg : decode cc pc = .ok (.invokevirtual index, 3)) (hcs : 0 + 1 ≤ R.cells ∧ 0 + 6 ≤ R.slots)
    (kr : ∀ r ce', res = .inl (r, ce') → ce'.length = n → ∀ (H1 : Heap) (locs1 : List Loc), Wl D ad n ao oc ce' o s.heap H1 locs1 → W p l e R s m args below meth c H1 locs1 1 6 Q (F0 m (pc + 3) ls (.int r :: rest)))
    (kx : ∀ E ce', res = .inr (E, ce') → ce'.length = n → ∀ (q9 : Addr) (cell : Cell) (H1 : Heap) (locs1 : List Loc), Wl D ad n ao oc ce' o s.heap H1 locs1 → H1[q9]? = some cell → cell.vm = .none → s.vm.findClass E = some cell.cls → vx_W p l e R s m args below meth c H1 locs1 1 6 Q (F0 m pc ls rest) q9)
    (hlen : (match res with | .inl r => r.2 | .inr r => r.2).length = n) : W p l e R s m args below meth c s.heap [] 0 0 Q (F0 m pc ls st0) := by
  have hpre : ∀ U : State, U.heap = s.heap → s.WarmedH U.vm → Cpre D ad tys ST ce s.heap.size (.ref (ad b) :: As) (.ref (ad b) :: As : List Value).toArray U := fun U hU hW =>
    ⟨rfl, by rw [hU], by rw [hU]; exact P_tl hw.1, va_K.moved hW.alike hK, (D_tl hw.2.1).weaken (fun _ _ _ _ => trivial), by rw [hU]; exact hST.1 s U _ hW hst⟩
  have hrun := vx_runV (H := s.heap) (locs := []) (cells := 0) (slots := 0) (below := below) (e := e) (meth := meth) (rest := rest) (g := F0 m pc ls st0) S (hM s.heap.size) cw ⟨Cpre_blind hST, va_recv hK (P_tl hw.1) hc (wls_get b he), hpre⟩ rfl hnn hsize hs0 (lv_room hroom) hdg hcs
  intro T0 hT X
  rcases hrun T0 hT X with ⟨v, st₀, t, T', L, h0, X', hL, e1, e2, hq, st⟩ | ⟨q, st₀, t, T', L, E, cell, h0, X', hL, e1, e2, hx, hce, hcv, hcl, st⟩
  · cases res with
    | inr r => exact hq.elim
    | inl r =>
      obtain ⟨r, ce'⟩ := r
      obtain ⟨⟨r1, u, hv, hp, hB⟩, hF⟩ := hq
      cases hv
      subst hp
      obtain ⟨k1, k2, k3⟩ := vx_keep (A1 := Aw ad n s.heap.size) h0 e1 hw.2.2 (fun q _ h => AL_up h) (fun q h => AL_up h) hL hF
      obtain ⟨t2, a1, b1⟩ := kr r1 ce' rfl hlen T'.heap ([] ++ L) (Wl_call hn hlen hw (by rw [e1]; exact hB) k2 k3) T' rfl X'
      exact ⟨t2, st t2 a1, b1⟩
  · cases res with
    | inl r => exact hx.elim
    | inr r =>
      obtain ⟨E', ce'⟩ := r
      obtain ⟨u, -, ⟨hE, hB⟩, hF⟩ := hx
      subst hE
      obtain ⟨k1, k2, k3⟩ := vx_keep (A1 := Aw ad n s.heap.size) h0 e1 hw.2.2 (fun q _ h => AL_up h) (fun q h => AL_up h) hL hF
      obtain ⟨t2, a1, b1⟩ := kx E ce' rfl hlen q cell T'.heap ([] ++ L) (Wl_call hn hlen hw (by rw [e1]; exact hB) k2 k3) (by rw [e1]; exact hce) hcv hcl T' rfl X'
      exact ⟨t2, st.trans a1, b1⟩
end LW
