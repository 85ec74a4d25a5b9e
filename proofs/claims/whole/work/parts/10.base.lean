/-! the world as a list of cells at the addresses ad 0, ad 1, .. ; rows over it -/
section GB
variable {p : Program} {l : Launch} {e : Env} {R : Room} {s : State} {m : MethodId} {args : Array Value} {below : List Frame} {meth : Method} {c : Code} {H : Heap} {locs : List Loc} {cells slots : Nat} {Q : State → Prop}
variable {cc : ByteArray} {pc : Nat} {ls : Array Slot} {rest : List Value} {A : Nat → Prop} {H0 : Heap} {D : va_G} {tys : List (ClassId × FieldType)} {ad : Nat → Nat} {ce : List va_E}
def wls (ad : Nat → Nat) (ce : List va_E) : va_W := ce.mapIdx (fun k e => (ad k, e))
theorem wls_get (k : Nat) {x : va_E} (h : ce[k]? = some x) : (wls ad ce)[k]? = some (ad k, x) := by
  simp [wls, List.getElem?_mapIdx, h]
theorem wls_set (k : Nat) (x : va_E) : (wls ad ce).set k (ad k, x) = wls ad (ce.set k x) := by
  apply List.ext_getElem?
  intro i
  simp only [wls, List.getElem?_mapIdx, List.getElem?_set, List.length_mapIdx]
  by_cases h : k = i
  · subst h
    by_cases h2 : k < ce.length <;> simp [h2]
  · simp [h]
/-- what holds of the heap in a walk: the cells, that they are apart and in A, that nothing else has changed -/
def Wo (D : va_G) (ad : Nat → Nat) (A : Nat → Prop) (ce : List va_E) (H0 H : Heap) (locs : List Loc) : Prop :=
  va_P D vwCl (wls ad ce) H ∧ va_D A (wls ad ce) ∧ va_S A H0 H locs
theorem wls_D {ce' : List va_E} (h : va_D A (wls ad ce)) (hn : ce'.length = ce.length) : va_D A (wls ad ce') := by
  have key : ∀ (k : Nat) (q : Nat × va_E), (wls ad ce')[k]? = some q → ∃ x : va_E, (wls ad ce)[k]? = some (q.1, x) := by
    intro k q hq
    simp only [wls, List.getElem?_mapIdx] at hq ⊢
    cases h1 : ce'[k]? with
    | none => rw [h1] at hq; cases hq
    | some y =>
      rw [h1] at hq
      cases hq
      have hk : k < ce.length := by
        have := (List.getElem?_eq_some_iff.mp h1).1
        omega
      exact ⟨ce[k], by rw [List.getElem?_eq_getElem hk]; rfl⟩
  refine ⟨fun i j p q hi hj hpq => ?_, fun k q hk => ?_⟩
  · obtain ⟨x, hx⟩ := key i p hi
    obtain ⟨z, hz⟩ := key j q hj
    exact h.1 i j _ _ hx hz hpq
  · obtain ⟨x, hx⟩ := key k q hk
    exact h.2 k (q.1, x) hx
theorem g_get (hexec : p.tables.exec = Jvm.exec) (hb : c.code = cc) {own ref C : String} {T : u_T} {N ci index : Nat} {Ts : List Cond} (hts : ∀ w ∈ Ts, w.before args s = true) (hin : ∀ w ∈ u_ws C T N, w ∈ Ts) (hown : s.vm.findClass own = some m.cls) (hK : va_K D vwCl tys s) (hw : Wo D ad A ce H0 H locs) (q0 : Nat) {fs : List Value} (he : ce[q0]? = some (.inr (ci, fs))) (hc : vwCl[ci]? = some (C, T, N)) (k : Nat) (hk : k < N) (hlink : (Cond.fieldLink own index ref (T k).2.1 (T k).2.2.1).before args s = true) (hsame : ∀ x, s.fieldFound? (T k).1 (T k).2.1 (T k).2.2.1 = some x → s.fieldFound? ref (T k).2.1 (T k).2.2.1 = some x) {v : Value} (hv : fs[k]? = some v) (hdg : decode cc pc = .ok (.getfield index, 3))
    (kk : W p l e R s m args below meth c H locs cells slots Q (F0 m (pc + 3) ls (v :: rest))) : W p l e R s m args below meth c H locs cells slots Q (F0 m pc ls (.ref (ad q0) :: rest)) :=
  va_get hexec hb hts hin hown hK hw.1 q0 (wls_get q0 he) hc k hk hlink hsame hv hdg kk
theorem g_getN (hexec : p.tables.exec = Jvm.exec) (hb : c.code = cc) {own ref C host : String} {T : u_T} {N ci index : Nat} {Ts : List Cond} (hts : ∀ w ∈ Ts, w.before args s = true) (hin : ∀ w ∈ u_ws C T N, w ∈ Ts) (hown : s.vm.findClass own = some m.cls) (hK : va_K D vwCl tys s) (hw : Wo D ad A ce H0 H locs) (q0 : Nat) {fs : List Value} (he : ce[q0]? = some (.inr (ci, fs))) (hc : vwCl[ci]? = some (C, T, N)) (k : Nat) (hk : k < N) (hlink : (Cond.fieldLinkNest own index ref (T k).2.1 (T k).2.2.1 host).before args s = true) (hsame : ∀ x, s.fieldFound? (T k).1 (T k).2.1 (T k).2.2.1 = some x → s.fieldFound? ref (T k).2.1 (T k).2.2.1 = some x) {v : Value} (hv : fs[k]? = some v) (hdg : decode cc pc = .ok (.getfield index, 3))
    (kk : W p l e R s m args below meth c H locs cells slots Q (F0 m (pc + 3) ls (v :: rest))) : W p l e R s m args below meth c H locs cells slots Q (F0 m pc ls (.ref (ad q0) :: rest)) :=
  va_getN hexec hb hts hin hown hK hw.1 q0 (wls_get q0 he) hc k hk hlink hsame hv hdg kk
theorem g_put (hexec : p.tables.exec = Jvm.exec) (hb : c.code = cc) {own ref C : String} {T : u_T} {N ci index : Nat} {Ts : List Cond} (hts : ∀ w ∈ Ts, w.before args s = true) (hin : ∀ w ∈ u_ws C T N, w ∈ Ts) (ty0 : Nat → FieldType) (hty : ∀ k, k < N → parseFieldDescriptor (T k).2.2.1 = some (ty0 k)) (hnm : ∀ a, a < N → ∀ b, b < N → a ≠ b → (T a).2.1 ≠ (T b).2.1) (hown : s.vm.findClass own = some m.cls) (hK : va_K D vwCl tys s) (hw : Wo D ad A ce H0 H locs) (q0 : Nat) {fs : List Value} (he : ce[q0]? = some (.inr (ci, fs))) (hc : vwCl[ci]? = some (C, T, N)) (k : Nat) (hk : k < N) (hlink : (Cond.fieldLink own index ref (T k).2.1 (T k).2.2.1).before args s = true) (hsame : ∀ x, s.fieldFound? (T k).1 (T k).2.1 (T k).2.2.1 = some x → s.fieldFound? ref (T k).2.1 (T k).2.2.1 = some x) (hfin : (T k).2.2.2 = false) {ty : FieldType} {v : Value} (hd : parseFieldDescriptor (T k).2.2.1 = some ty) (hn : narrow ty v = v) (hfit : fits ty v = true) (hl : k < fs.length)
    (hdg : decode cc pc = .ok (.putfield index, 3)) (kk : ∀ (H1 : Heap) (locs1 : List Loc), Wo D ad A (ce.set q0 (.inr (ci, fs.set k v))) H0 H1 locs1 → W p l e R s m args below meth c H1 locs1 cells slots Q (F0 m (pc + 3) ls rest)) : W p l e R s m args below meth c H locs cells slots Q (F0 m pc ls (v :: .ref (ad q0) :: rest)) :=
  va_put hexec hb hts hin ty0 hty hnm hown hK hw.1 hw.2.1 hw.2.2 q0 (wls_get q0 he) hc k hk hlink hsame hfin hd hn hfit hl hdg (fun H1 locs1 a b c => kk H1 locs1 ⟨by rw [wls_set] at a; exact a, by rw [wls_set] at b; exact b, c⟩)
theorem g_iald (hexec : p.tables.exec = Jvm.exec) (hb : c.code = cc) (hK : va_K D vwCl tys s) (hw : Wo D ad A ce H0 H locs) (q0 t0 : Nat) {cA : ClassId} {n : Nat} {f : Nat → Int32} (ha : ce[q0]? = some (.inl (cA, n, .inl f))) (ht : tys[t0]? = some (cA, .int)) {i : Int32} (hin : vp_in i n) (hdg : decode cc pc = .ok (.iaload, 1))
    (kk : W p l e R s m args below meth c H locs cells slots Q (F0 m (pc + 1) ls (.int (f i.toNatClampNeg) :: rest))) : W p l e R s m args below meth c H locs cells slots Q (F0 m pc ls (.int i :: .ref (ad q0) :: rest)) :=
  va_iald hexec hb hK hw.1 q0 t0 (wls_get q0 ha) ht hin hdg kk
theorem g_bald (hexec : p.tables.exec = Jvm.exec) (hb : c.code = cc) (hK : va_K D vwCl tys s) (hw : Wo D ad A ce H0 H locs) (q0 t0 : Nat) {cA : ClassId} {n : Nat} {f : Nat → Int32} (ha : ce[q0]? = some (.inl (cA, n, .inl f))) (ht : tys[t0]? = some (cA, .byte)) {i : Int32} (hin : vp_in i n) (hdg : decode cc pc = .ok (.baload, 1))
    (kk : W p l e R s m args below meth c H locs cells slots Q (F0 m (pc + 1) ls (.int (f i.toNatClampNeg) :: rest))) : W p l e R s m args below meth c H locs cells slots Q (F0 m pc ls (.int i :: .ref (ad q0) :: rest)) :=
  va_bald hexec hb hK hw.1 q0 t0 (wls_get q0 ha) ht hin hdg kk
theorem g_zald (hexec : p.tables.exec = Jvm.exec) (hb : c.code = cc) (hK : va_K D vwCl tys s) (hw : Wo D ad A ce H0 H locs) (q0 t0 : Nat) {cA : ClassId} {n : Nat} {f : Nat → Int32} (ha : ce[q0]? = some (.inl (cA, n, .inl f))) (ht : tys[t0]? = some (cA, .boolean)) {i : Int32} (hin : vp_in i n) (hdg : decode cc pc = .ok (.baload, 1))
    (kk : W p l e R s m args below meth c H locs cells slots Q (F0 m (pc + 1) ls (.int (f i.toNatClampNeg) :: rest))) : W p l e R s m args below meth c H locs cells slots Q (F0 m pc ls (.int i :: .ref (ad q0) :: rest)) :=
  va_zald hexec hb hK hw.1 q0 t0 (wls_get q0 ha) ht hin hdg kk
theorem g_lald (hexec : p.tables.exec = Jvm.exec) (hb : c.code = cc) (hK : va_K D vwCl tys s) (hw : Wo D ad A ce H0 H locs) (q0 t0 : Nat) {cA : ClassId} {n : Nat} {f : Nat → Int64} (ha : ce[q0]? = some (.inl (cA, n, .inr (.inl f)))) (ht : tys[t0]? = some (cA, .long)) {i : Int32} (hin : vp_in i n) (hdg : decode cc pc = .ok (.laload, 1))
    (kk : W p l e R s m args below meth c H locs cells slots Q (F0 m (pc + 1) ls (.long (f i.toNatClampNeg) :: rest))) : W p l e R s m args below meth c H locs cells slots Q (F0 m pc ls (.int i :: .ref (ad q0) :: rest)) :=
  va_lald hexec hb hK hw.1 q0 t0 (wls_get q0 ha) ht hin hdg kk
theorem g_aald (hexec : p.tables.exec = Jvm.exec) (hb : c.code = cc) (hK : va_K D vwCl tys s) (hw : Wo D ad A ce H0 H locs) (q0 t0 : Nat) {cA : ClassId} {C : String} {n : Nat} {f : Nat → Option Nat} (ha : ce[q0]? = some (.inl (cA, n, .inr (.inr (.inr (.inr f)))))) (ht : tys[t0]? = some (cA, .object C)) {i : Int32} (hin : vp_in i n) (hdg : decode cc pc = .ok (.aaload, 1)) {a : Nat} (hv : f i.toNatClampNeg = some a)
    (kk : W p l e R s m args below meth c H locs cells slots Q (F0 m (pc + 1) ls (.ref a :: rest))) : W p l e R s m args below meth c H locs cells slots Q (F0 m pc ls (.int i :: .ref (ad q0) :: rest)) :=
  va_aldq hexec hb hK hw.1 q0 t0 (wls_get q0 ha) ht hin hdg (by rw [hv]; exact kk)
theorem g_iast (hexec : p.tables.exec = Jvm.exec) (hb : c.code = cc) (hK : va_K D vwCl tys s) (hw : Wo D ad A ce H0 H locs) (q0 t0 : Nat) {cA : ClassId} {n : Nat} {f : Nat → Int32} (ha : ce[q0]? = some (.inl (cA, n, .inl f))) (ht : tys[t0]? = some (cA, .int)) {i : Int32} {x : Int32} (hin : vp_in i n) (hdg : decode cc pc = .ok (.iastore, 1))
    (kk : ∀ (H1 : Heap) (locs1 : List Loc), Wo D ad A (ce.set q0 (.inl (cA, n, .inl (upd f i.toNatClampNeg x)))) H0 H1 locs1 → W p l e R s m args below meth c H1 locs1 cells slots Q (F0 m (pc + 1) ls rest)) : W p l e R s m args below meth c H locs cells slots Q (F0 m pc ls (.int x :: .int i :: .ref (ad q0) :: rest)) :=
  va_iast hexec hb hK hw.1 hw.2.1 hw.2.2 q0 t0 (wls_get q0 ha) ht hin hdg (fun H1 locs1 a b c => kk H1 locs1 ⟨by rw [wls_set] at a; exact a, by rw [wls_set] at b; exact b, c⟩)
theorem g_bast (hexec : p.tables.exec = Jvm.exec) (hb : c.code = cc) (hK : va_K D vwCl tys s) (hw : Wo D ad A ce H0 H locs) (q0 t0 : Nat) {cA : ClassId} {n : Nat} {f : Nat → Int32} (ha : ce[q0]? = some (.inl (cA, n, .inl f))) (ht : tys[t0]? = some (cA, .byte)) {i : Int32} {x : Int32} (hin : vp_in i n) (hdg : decode cc pc = .ok (.bastore, 1))
    (kk : ∀ (H1 : Heap) (locs1 : List Loc), Wo D ad A (ce.set q0 (.inl (cA, n, .inl (upd f i.toNatClampNeg (vp_nar .byte x))))) H0 H1 locs1 → W p l e R s m args below meth c H1 locs1 cells slots Q (F0 m (pc + 1) ls rest)) : W p l e R s m args below meth c H locs cells slots Q (F0 m pc ls (.int x :: .int i :: .ref (ad q0) :: rest)) :=
  va_bast hexec hb hK hw.1 hw.2.1 hw.2.2 q0 t0 (wls_get q0 ha) ht hin hdg (fun H1 locs1 a b c => kk H1 locs1 ⟨by rw [wls_set] at a; exact a, by rw [wls_set] at b; exact b, c⟩)
theorem g_zast (hexec : p.tables.exec = Jvm.exec) (hb : c.code = cc) (hK : va_K D vwCl tys s) (hw : Wo D ad A ce H0 H locs) (q0 t0 : Nat) {cA : ClassId} {n : Nat} {f : Nat → Int32} (ha : ce[q0]? = some (.inl (cA, n, .inl f))) (ht : tys[t0]? = some (cA, .boolean)) {i : Int32} {x : Int32} (hin : vp_in i n) (hdg : decode cc pc = .ok (.bastore, 1))
    (kk : ∀ (H1 : Heap) (locs1 : List Loc), Wo D ad A (ce.set q0 (.inl (cA, n, .inl (upd f i.toNatClampNeg (vp_nar .boolean x))))) H0 H1 locs1 → W p l e R s m args below meth c H1 locs1 cells slots Q (F0 m (pc + 1) ls rest)) : W p l e R s m args below meth c H locs cells slots Q (F0 m pc ls (.int x :: .int i :: .ref (ad q0) :: rest)) :=
  va_zast hexec hb hK hw.1 hw.2.1 hw.2.2 q0 t0 (wls_get q0 ha) ht hin hdg (fun H1 locs1 a b c => kk H1 locs1 ⟨by rw [wls_set] at a; exact a, by rw [wls_set] at b; exact b, c⟩)
theorem g_last (hexec : p.tables.exec = Jvm.exec) (hb : c.code = cc) (hK : va_K D vwCl tys s) (hw : Wo D ad A ce H0 H locs) (q0 t0 : Nat) {cA : ClassId} {n : Nat} {f : Nat → Int64} (ha : ce[q0]? = some (.inl (cA, n, .inr (.inl f)))) (ht : tys[t0]? = some (cA, .long)) {i : Int32} {x : Int64} (hin : vp_in i n) (hdg : decode cc pc = .ok (.lastore, 1))
    (kk : ∀ (H1 : Heap) (locs1 : List Loc), Wo D ad A (ce.set q0 (.inl (cA, n, .inr (.inl (vp_updL f i.toNatClampNeg x))))) H0 H1 locs1 → W p l e R s m args below meth c H1 locs1 cells slots Q (F0 m (pc + 1) ls rest)) : W p l e R s m args below meth c H locs cells slots Q (F0 m pc ls (.long x :: .int i :: .ref (ad q0) :: rest)) :=
  va_last hexec hb hK hw.1 hw.2.1 hw.2.2 q0 t0 (wls_get q0 ha) ht hin hdg (fun H1 locs1 a b c => kk H1 locs1 ⟨by rw [wls_set] at a; exact a, by rw [wls_set] at b; exact b, c⟩)
/-- the cells of the world, and what is new -/
def inW (ad : Nat → Nat) (n : Nat) (q : Nat) : Prop := ∃ k, k < n ∧ q = ad k
def Aw (ad : Nat → Nat) (n sz : Nat) (q : Nat) : Prop := inW ad n q ∨ sz ≤ q
/-- what is said of the statics: it outlives calls and writes into the world -/
def STok (ad : Nat → Nat) (n : Nat) (ST : State → Heap → Prop) : Prop :=
  (∀ (u U : State) (H : Heap), u.WarmedH U.vm → ST u H → ST U H) ∧ ∀ (U : State) (H H1 : Heap), (∀ a : Nat, a < H.size → ¬ inW ad n a → H1[a]? = H[a]?) → ST U H → ST U H1
def Cpre (D : va_G) (ad : Nat → Nat) (tys : List (ClassId × FieldType)) (ST : State → Heap → Prop) (ce : List va_E) (sz : Nat) (av : List Value) : Array Value → State → Prop :=
  va_Pc av (fun U => U.heap.size = sz ∧ va_P D vwCl (wls ad ce) U.heap ∧ va_K D vwCl tys U ∧ va_D (fun _ => True) (wls ad ce) ∧ ST U U.heap)
/-- contracts: int, void, an enum's constant -/
def CTi (l : Launch) (y : MethodName) (ws : List Cond) (rm : Room) (D : va_G) (ad : Nat → Nat) (n : Nat) (tys : List (ClassId × FieldType)) (ST : State → Heap → Prop) (ce ce' : List va_E) (av : List Value) (r : Int32) : Prop :=
  ∀ sz, Met l y ws rm (Cpre D ad tys ST ce sz av) (va_Qi (fun x (_ : Unit) => x = r) (fun _ t => va_P D vwCl (wls ad ce') t.heap) (Aw ad n sz)) 0 0 (Aw ad n sz)
def CTv (l : Launch) (y : MethodName) (ws : List Cond) (rm : Room) (D : va_G) (ad : Nat → Nat) (n : Nat) (tys : List (ClassId × FieldType)) (ST : State → Heap → Prop) (ce ce' : List va_E) (av : List Value) : Prop :=
  ∀ sz, Met l y ws rm (Cpre D ad tys ST ce sz av) (va_Qv (fun (_ : Unit) => True) (fun _ t => va_P D vwCl (wls ad ce') t.heap) (Aw ad n sz)) 0 0 (Aw ad n sz)
def CTr (l : Launch) (y : MethodName) (ws : List Cond) (rm : Room) (D : va_G) (ad : Nat → Nat) (n : Nat) (tys : List (ClassId × FieldType)) (ST : State → Heap → Prop) (ce ce' : List va_E) (av : List Value) (r : Nat) : Prop :=
  ∀ sz, Met l y ws rm (Cpre D ad tys ST ce sz av) (va_Qr (fun (_ : Unit) => True) (fun _ a t => a = r ∧ va_P D vwCl (wls ad ce') t.heap) (Aw ad n sz)) 0 0 (Aw ad n sz)
theorem Cpre_blind {ST : State → Heap → Prop} {n sz : Nat} {av : List Value} (hST : STok ad n ST) : FrameBlind (Cpre D ad tys ST ce sz av) := by
  intro a U g mk q
  obtain ⟨q0, q1, qP, qK, qD, qS⟩ := q
  exact ⟨q0, q1, qP, va_K.moved (u := U) (U := U.calling g mk a) (Vm.Alike.refl U.vm) qK, qD, hST.1 U (U.calling g mk a) _ (State.WarmedH.refl U) qS⟩
theorem Wo_ST {ST : State → Heap → Prop} {n : Nat} (hST : STok ad n ST) (hw : Wo D ad (Aw ad n s.heap.size) ce s.heap H locs) (h : ST s s.heap) : ST s H :=
  hST.2 s s.heap H (fun a ha hn => hw.2.2.2.1 a ha (fun z => z.elim hn (fun q => absurd ha (Nat.not_lt.mpr q)))) h
theorem Cpre_of {ST : State → Heap → Prop} {n : Nat} {av : List Value} (hST : STok ad n ST) (hK : va_K D vwCl tys s) (hw : Wo D ad (Aw ad n s.heap.size) ce s.heap H locs) (h : ST s s.heap) (U : State) (hU : U.heap = H) (hW : s.WarmedH U.vm) : Cpre D ad tys ST ce H.size av av.toArray U :=
  ⟨rfl, by rw [hU], by rw [hU]; exact hw.1, va_K.moved hW.alike hK, hw.2.1.weaken (fun _ _ _ _ => trivial), by rw [hU]; exact hST.1 s U H hW (Wo_ST hST hw h)⟩
theorem Aw_up {n : Nat} (hw : Wo D ad (Aw ad n s.heap.size) ce s.heap H locs) (q : Nat) (h : Aw ad n H.size q) : Aw ad n s.heap.size q :=
  h.elim Or.inl (fun z => Or.inr (Nat.le_trans hw.2.2.1 z))
variable {y : MethodName} {bytes : ByteArray} {maxL nL nn index : Nat} {ret : Option FieldType} {ws : List Cond} {rm : Room} {Ts : List Cond} {own C : String} {b : Nat} {As : List Value} {ce' : List va_E} {n : Nat} {ST : State → Heap → Prop} {st0 : List Value}
theorem g_Vi {r : Int32} (S : CallFix p m c cc nL s args Ts own) (hM : CTi l y ws rm D ad n tys ST ce ce' (.ref (ad b) :: As) r) (cw : CallW R s args own C index y bytes maxL ret ws rm 0 0 nn) (hST : STok ad n ST) (hst : ST s s.heap) (hK : va_K D vwCl tys s) (hw : Wo D ad (Aw ad n s.heap.size) ce s.heap H locs) (hn : ce'.length = ce.length) {ci : Nat} {fs : List Value} (he : ce[b]? = some (.inr (ci, fs))) {T : u_T} {N : Nat} (hc : vwCl[ci]? = some (C, T, N)) (hnn : As.length = nn) (hsize : ls.size = nL) (hs0 : st0 = As.reverse ++ .ref (ad b) :: rest) (hroom : (rest.map fun v => v.category).sum ≤ 8) (hdg : decode cc pc = .ok (.invokevirtual index, 3)) (hcs : cells ≤ R.cells ∧ slots ≤ R.slots)
    (kk : ∀ (H1 : Heap) (locs1 : List Loc), Wo D ad (Aw ad n s.heap.size) ce' s.heap H1 locs1 → W p l e R s m args below meth c H1 locs1 cells slots Q (F0 m (pc + 3) ls (.int r :: rest))) : W p l e R s m args below meth c H locs cells slots Q (F0 m pc ls st0) := by
  refine va_calli (va_runV (rest := rest) S (hM H.size) cw ⟨Cpre_blind hST, va_recv hK hw.1 hc (wls_get b he), Cpre_of hST hK hw hst⟩ rfl hnn hsize hs0 (lv_room hroom) hdg hcs) hw.2.2 (fun q _ h => Aw_up hw q h) (fun q h => Aw_up hw q h) (fun r1 u t H1 locs1 ht hvm hp hB hz hk hS => ?_)
  subst hp
  exact kk H1 locs1 ⟨by rw [← ht]; exact hB, wls_D hw.2.1 hn, hS⟩
theorem g_Vv (S : CallFix p m c cc nL s args Ts own) (hM : CTv l y ws rm D ad n tys ST ce ce' (.ref (ad b) :: As)) (cw : CallW R s args own C index y bytes maxL ret ws rm 0 0 nn) (hST : STok ad n ST) (hst : ST s s.heap) (hK : va_K D vwCl tys s) (hw : Wo D ad (Aw ad n s.heap.size) ce s.heap H locs) (hn : ce'.length = ce.length) {ci : Nat} {fs : List Value} (he : ce[b]? = some (.inr (ci, fs))) {T : u_T} {N : Nat} (hc : vwCl[ci]? = some (C, T, N)) (hnn : As.length = nn) (hsize : ls.size = nL) (hs0 : st0 = As.reverse ++ .ref (ad b) :: rest) (hroom : (rest.map fun v => v.category).sum ≤ 8) (hdg : decode cc pc = .ok (.invokevirtual index, 3)) (hcs : cells ≤ R.cells ∧ slots ≤ R.slots)
    (kk : ∀ (H1 : Heap) (locs1 : List Loc), Wo D ad (Aw ad n s.heap.size) ce' s.heap H1 locs1 → W p l e R s m args below meth c H1 locs1 cells slots Q (F0 m (pc + 3) ls rest)) : W p l e R s m args below meth c H locs cells slots Q (F0 m pc ls st0) := by
  refine va_callv (va_runV (rest := rest) S (hM H.size) cw ⟨Cpre_blind hST, va_recv hK hw.1 hc (wls_get b he), Cpre_of hST hK hw hst⟩ rfl hnn hsize hs0 (lv_room hroom) hdg hcs) hw.2.2 (fun q _ h => Aw_up hw q h) (fun q h => Aw_up hw q h) (fun u t H1 locs1 ht hvm hp hB hz hk hS => ?_)
  exact kk H1 locs1 ⟨by rw [← ht]; exact hB, wls_D hw.2.1 hn, hS⟩
theorem g_Si {r : Int32} (S : CallFix p m c cc nL s args Ts own) (hM : CTi l y ws rm D ad n tys ST ce ce' As r) (cw : CallB R s args own index y bytes maxL ret ws rm 0 0 nn ∧ (Cond.static y).before args s = true) (hST : STok ad n ST) (hst : ST s s.heap) (hK : va_K D vwCl tys s) (hw : Wo D ad (Aw ad n s.heap.size) ce s.heap H locs) (hn : ce'.length = ce.length) (hnn : As.length = nn) (hsize : ls.size = nL) (hs0 : st0 = As.reverse ++ rest) (hroom : (rest.map fun v => v.category).sum ≤ 8) (hdg : decode cc pc = .ok (.invokestatic index, 3)) (hcs : cells ≤ R.cells ∧ slots ≤ R.slots)
    (kk : ∀ (H1 : Heap) (locs1 : List Loc), Wo D ad (Aw ad n s.heap.size) ce' s.heap H1 locs1 → W p l e R s m args below meth c H1 locs1 cells slots Q (F0 m (pc + 3) ls (.int r :: rest))) : W p l e R s m args below meth c H locs cells slots Q (F0 m pc ls st0) := by
  refine va_calli (va_runS (rest := rest) S (hM H.size) cw ⟨Cpre_blind hST, Cpre_of hST hK hw hst⟩ rfl hnn hsize hs0 (lv_room hroom) hdg hcs) hw.2.2 (fun q _ h => Aw_up hw q h) (fun q h => Aw_up hw q h) (fun r1 u t H1 locs1 ht hvm hp hB hz hk hS => ?_)
  subst hp
  exact kk H1 locs1 ⟨by rw [← ht]; exact hB, wls_D hw.2.1 hn, hS⟩
theorem g_Sr {r : Nat} (S : CallFix p m c cc nL s args Ts own) (hM : CTr l y ws rm D ad n tys ST ce ce' As r) (cw : CallB R s args own index y bytes maxL ret ws rm 0 0 nn ∧ (Cond.static y).before args s = true) (hST : STok ad n ST) (hst : ST s s.heap) (hK : va_K D vwCl tys s) (hw : Wo D ad (Aw ad n s.heap.size) ce s.heap H locs) (hn : ce'.length = ce.length) (hnn : As.length = nn) (hsize : ls.size = nL) (hs0 : st0 = As.reverse ++ rest) (hroom : (rest.map fun v => v.category).sum ≤ 8) (hdg : decode cc pc = .ok (.invokestatic index, 3)) (hcs : cells ≤ R.cells ∧ slots ≤ R.slots)
    (kk : ∀ (H1 : Heap) (locs1 : List Loc), Wo D ad (Aw ad n s.heap.size) ce' s.heap H1 locs1 → W p l e R s m args below meth c H1 locs1 cells slots Q (F0 m (pc + 3) ls (.ref r :: rest))) : W p l e R s m args below meth c H locs cells slots Q (F0 m pc ls st0) := by
  refine va_callr (va_runS (rest := rest) S (hM H.size) cw ⟨Cpre_blind hST, Cpre_of hST hK hw hst⟩ rfl hnn hsize hs0 (lv_room hroom) hdg hcs) hw.2.2 (fun q _ h => Aw_up hw q h) (fun q h => Aw_up hw q h) (fun u r1 t H1 locs1 ht hvm hp hB hz hk hS => ?_)
  obtain ⟨hr1, hB⟩ := hB
  subst hr1
  exact kk H1 locs1 ⟨by rw [← ht]; exact hB, wls_D hw.2.1 hn, hS⟩
/-- the end of a method: nothing but its world has changed -/
theorem g_end {r : Int32} (hw : Wo D ad (Aw ad n s.heap.size) ce' s.heap H locs) (t : State) (ht : t.heap = H) : va_Qi (fun x (_ : Unit) => x = r) (fun _ t => va_P D vwCl (wls ad ce') t.heap) (Aw ad n s.heap.size) args s (.returned (some (.int r))) t :=
  ⟨⟨r, (), rfl, rfl, by subst ht; exact hw.1⟩, hw.2.2.F ht⟩
theorem g_endv (hw : Wo D ad (Aw ad n s.heap.size) ce' s.heap H locs) (t : State) (ht : t.heap = H) : va_Qv (fun (_ : Unit) => True) (fun _ t => va_P D vwCl (wls ad ce') t.heap) (Aw ad n s.heap.size) args s (.returned none) t :=
  ⟨⟨(), rfl, trivial, by subst ht; exact hw.1⟩, hw.2.2.F ht⟩
theorem g_endr {r : Nat} (hw : Wo D ad (Aw ad n s.heap.size) ce' s.heap H locs) (t : State) (ht : t.heap = H) : va_Qr (fun (_ : Unit) => True) (fun _ a t => a = r ∧ va_P D vwCl (wls ad ce') t.heap) (Aw ad n s.heap.size) args s (.returned (some (.ref r))) t :=
  ⟨⟨(), r, rfl, trivial, rfl, by subst ht; exact hw.1⟩, hw.2.2.F ht⟩
theorem g_start (hn : ce.length = n) (hP : va_P D vwCl (wls ad ce) s.heap) (hD : va_D (fun _ => True) (wls ad ce)) : Wo D ad (Aw ad n s.heap.size) ce s.heap s.heap [] := by
  refine ⟨hP, ⟨hD.1, fun k q hk => Or.inl ?_⟩, va_S.rf⟩
  simp only [wls, List.getElem?_mapIdx] at hk
  cases h1 : ce[k]? with
  | none => rw [h1] at hk; cases hk
  | some x =>
    rw [h1] at hk
    cases hk
    exact ⟨k, by rw [← hn]; exact (List.getElem?_eq_some_iff.mp h1).1, rfl⟩
end GB
/-! what the programs compute: options, loops by a measure of steps -/
section GF
variable {α β σ ρ : Type}
def gIn (i : Int32) (n : Nat) (x : Option α) : Option α := if i < 0 ∨ n ≤ i.toNatClampNeg then none else x
theorem gIn_some {i : Int32} {n : Nat} {x : Option α} {r : α} (h : gIn i n x = some r) : vp_in i n ∧ x = some r := by
  unfold gIn at h
  split at h
  · cases h
  · rename_i q
    exact ⟨q, h⟩
theorem gIn_of {i : Int32} {n : Nat} {x : Option α} (h : vp_in i n) : gIn i n x = x := if_neg h
def lp (body : σ → Option (σ ⊕ ρ)) : Nat → σ → Option ρ
  | 0, _ => none
  | n + 1, s => match body s with
    | none => none
    | some (.inl s') => lp body n s'
    | some (.inr r) => some r
theorem lp_succ {body : σ → Option (σ ⊕ ρ)} {n : Nat} {s : σ} {r : ρ} (h : lp body (n + 1) s = some r) : (∃ s', body s = some (.inl s') ∧ lp body n s' = some r) ∨ body s = some (.inr r) := by
  unfold lp at h
  split at h
  · cases h
  · rename_i s' hs
    exact Or.inl ⟨s', hs, h⟩
  · rename_i r' hs
    cases h
    exact Or.inr hs
theorem it_p {c : Prop} {d : Decidable c} {a b r : α} (hc : c) (h : @ite α c d a b = r) : a = r := by rw [if_pos hc] at h; exact h
theorem it_n {c : Prop} {d : Decidable c} {a b r : α} (hc : ¬ c) (h : @ite α c d a b = r) : b = r := by rw [if_neg hc] at h; exact h
theorem bd {x : Option α} {f : α → Option β} {r : β} (h : x.bind f = some r) : ∃ q, x = some q ∧ f q = some r := by
  cases x with
  | none => cases h
  | some q => exact ⟨q, rfl, h⟩
theorem so {a b : α} (h : some a = some b) : a = b := Option.some.inj h
end GF
section GG
variable {α β σ ρ : Type}
def gFU : Nat := 100000
def gB (x : Int32) (r : Option α) : Option α := if x = 0 ∨ x = 1 then r else none
theorem gB_some {x : Int32} {r : Option α} {q : α} (h : gB x r = some q) : (x = 0 ∨ x = 1) ∧ r = some q := by
  unfold gB at h
  split at h
  · rename_i z; exact ⟨z, h⟩
  · cases h
theorem gB_of {x : Int32} {r : Option α} (h : x = 0 ∨ x = 1) : gB x r = r := if_pos h
theorem gB_n {x : Int32} (h : x = 0 ∨ x = 1) : narrow .boolean (.int x) = .int x := by rcases h with rfl | rfl <;> rfl
theorem gB_f {x : Int32} (h : x = 0 ∨ x = 1) : fits .boolean (.int x) = true := by rcases h with rfl | rfl <;> rfl
def gCh (x : Int32) (r : Option α) : Option α := if (x.toUInt32 % 65536).toInt32 = x then r else none
theorem gCh_some {x : Int32} {r : Option α} {q : α} (h : gCh x r = some q) : (x.toUInt32 % 65536).toInt32 = x ∧ r = some q := by
  unfold gCh at h
  split at h
  · rename_i z; exact ⟨z, h⟩
  · cases h
theorem gCh_of {x : Int32} {r : Option α} (h : (x.toUInt32 % 65536).toInt32 = x) : gCh x r = r := if_pos h
theorem gCh_n {x : Int32} (h : (x.toUInt32 % 65536).toInt32 = x) : narrow .char (.int x) = .int x := by
  have h2 := pk_nc x
  rw [h] at h2
  exact h2
theorem lp_zero {body : σ → Option (σ ⊕ ρ)} {s : σ} {r : ρ} : ¬ lp body 0 s = some r := fun h => by cases h
theorem el_l {γ : Type} {f : α → γ} {g : β → γ} {t : α} {r : γ} (h : Sum.elim f g (.inl t) = r) : f t = r := h
theorem el_r {γ : Type} {f : α → γ} {g : β → γ} {t : β} {r : γ} (h : Sum.elim f g (.inr t) = r) : g t = r := h
theorem sw_ne {x k : Int32} (c : ¬ x = k) (ki : Int) (h : k.toInt = ki) : x.toInt ≠ ki := fun e => c (Int32.toInt_inj.mp (e.trans h.symm))
end GG
def CXT (ws : List Cond) (cc : ByteArray) (own : String) (nL : Nat) (ret : Option FieldType) (D : va_G) (tys : List (ClassId × FieldType)) (ST : State → Heap → Prop) (p : Program) (s : State) (m : MethodId) (args : Array Value) (meth : Method) (c : Code) : Prop :=
  p.tables.exec = Jvm.exec ∧ c.code = cc ∧ meth.sig.returnType = ret ∧ c.maxLocals = nL ∧ s.vm.findClass own = some m.cls ∧ (∀ w ∈ ws, w.before args s = true) ∧ meth.locks = false ∧ va_K D vwCl tys s ∧ ST s s.heap
theorem va_Zup {C n d : String} {v : Value} {ad : Nat → Nat} {N : Nat} {s : State} (h : va_Z C n d v (inW ad N) s s.heap) : va_Z C n d v (Aw ad N s.heap.size) s s.heap := by
  obtain ⟨cf, kf, fi, f, a, cell, h1, h2, h3, h4, h5, h6, h7, h8⟩ := h
  exact ⟨cf, kf, fi, f, a, cell, h1, h2, h3, h4, h5, h6, h7, fun z => z.elim h8 (fun q => absurd (Array.getElem?_eq_some_iff.mp h5).1 (Nat.not_lt.mpr q))⟩
