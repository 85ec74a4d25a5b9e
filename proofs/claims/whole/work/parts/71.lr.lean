/-! the law's rules: a call on one world leaves the others as they are -/
section LR
variable {p : Program} {l : Launch} {e : Env} {R : Room} {s : State} {m : MethodId} {args : Array Value} {below : List Frame} {meth : Method} {c : Code} {H : Heap} {locs : List Loc} {cells slots : Nat} {Q : State → Prop}
variable {cc : ByteArray} {pc : Nat} {ls : Array Slot} {rest : List Value} {D : va_G} {tys : List (ClassId × FieldType)} {ad : Nat → Nat} {ce ce' : List va_E} {n : Nat} {FR : va_W} {ST : State → Heap → Prop}
variable {y : MethodName} {bytes : ByteArray} {maxL nL nn index : Nat} {ret : Option FieldType} {ws : List Cond} {rm : Room} {Ts : List Cond} {own C : String} {As : List Value} {st0 : List Value}
abbrev oldS (s : State) (q : Nat) : Prop := s.heap.size ≤ q
theorem L_D (hinj : ∀ i j, i < n → j < n → ad i = ad j → i = j) (hn : ce.length = n) : va_D (fun _ => True) (wls ad ce) := by
  refine ⟨fun i j p q hi hj hpq => ?_, fun _ _ _ => trivial⟩
  obtain ⟨h1, h2⟩ := wls_ad hi
  obtain ⟨h3, h4⟩ := wls_ad hj
  exact hinj i j (by omega) (by omega) (by rw [← h2, ← h4]; exact hpq)
theorem L_ST (hST : STok ad n ST) (hst : ST s s.heap) (hS : va_S (oldS s) s.heap H locs) {U : State} (hW : s.WarmedH U.vm) : ST U H :=
  hST.1 s U H hW (hST.2 s s.heap H (fun a ha _ => hS.2.1 a ha (Nat.not_le.mpr ha)) hst)
theorem L_up (hlo : ∀ i, i < n → s.heap.size ≤ ad i) (hS : va_S (oldS s) s.heap H locs) (q : Nat) (h : Aw ad n H.size q) : oldS s q :=
  h.elim (fun z => inW_up hlo q z) (fun z => Nat.le_trans hS.1 z)
theorem L_FR {H1 : Heap} (hFR : ∀ (k : Nat) (q : Nat × va_E), FR[k]? = some q → ¬ inW ad n q.1) (hF : va_P D vwCl FR H) (hk : ∀ q : Nat, q < H.size → ¬ Aw ad n H.size q → H1[q]? = H[q]?) : va_P D vwCl FR H1 :=
  hF.kept (fun k q hq => hk q.1 (hF k q hq).lt (fun z => z.elim (hFR k q hq) (fun z => absurd (hF k q hq).lt (Nat.not_lt.mpr z))))
/-- a call of an object's method: its world changes, the frame FR stays -/
theorem L_V {r : Int32} (S : CallFix p m c cc nL s args Ts own) (hM : CTi l y ws rm D ad n tys ST ce ce' (.ref (ad 0) :: As) r) (cw : CallW R s args own C index y bytes maxL ret ws rm 0 0 nn) (hST : STok ad n ST) (hst : ST s s.heap) (hK : va_K D vwCl tys s) (hinj : ∀ i j, i < n → j < n → ad i = ad j → i = j) (hlo : ∀ i, i < n → s.heap.size ≤ ad i) (hn : ce.length = n) (hFR : ∀ (k : Nat) (q : Nat × va_E), FR[k]? = some q → ¬ inW ad n q.1)
    (hP : va_P D vwCl (wls ad ce) H) (hF : va_P D vwCl FR H) (hS : va_S (oldS s) s.heap H locs) {ci : Nat} {fs : List Value} (he : ce[0]? = some (.inr (ci, fs))) {T : u_T} {N : Nat} (hc : vwCl[ci]? = some (C, T, N)) (hnn : As.length = nn) (hsize : ls.size = nL) (hs0 : st0 = As.reverse ++ .ref (ad 0) :: rest) (hroom : (rest.map fun v => v.category).sum ≤ 8) (hdg : decode cc pc = .ok (.invokevirtual index, 3)) (hcs : cells ≤ R.cells ∧ slots ≤ R.slots)
    (kk : ∀ (H1 : Heap) (locs1 : List Loc), va_P D vwCl (wls ad ce') H1 → va_P D vwCl FR H1 → va_S (oldS s) s.heap H1 locs1 → W p l e R s m args below meth c H1 locs1 cells slots Q (F0 m (pc + 3) ls (.int r :: rest))) : W p l e R s m args below meth c H locs cells slots Q (F0 m pc ls st0) := by
  refine va_calli (va_runV (rest := rest) S (hM H.size) cw ⟨Cpre_blind hST, va_recv hK hP hc (wls_get 0 he), fun U hU hW => ⟨rfl, by rw [hU], by rw [hU]; exact hP, va_K.moved hW.alike hK, L_D hinj hn, by rw [hU]; exact L_ST hST hst hS hW⟩⟩ rfl hnn hsize hs0 (lv_room hroom) hdg hcs) hS (fun q _ h => L_up hlo hS q h) (fun q h => L_up hlo hS q h) (fun r1 u t H1 locs1 ht hvm hp hB hz hk hS1 => ?_)
  subst hp
  exact kk H1 locs1 (by rw [← ht]; exact hB) (L_FR hFR hF hk) hS1
/-- a call of a wrapper: the class's world and the row 'out' change -/
theorem L_W {r : Int32 × List va_E × (Nat → Int64)} {ao : Nat} {oc : ClassId} {o : Nat → Int64} (S : CallFix p m c cc nL s args Ts own) (hM : CTL l y ws rm D ad n tys ST ce ao oc o As r) {hh : List (Nat × Nat × Nat × Nat)} (cw : vx_CSW R s args own index y bytes maxL ret hh ws rm 1 6 nn) (hST : STok ad n ST) (hst : ST s s.heap) (hK : va_K D vwCl tys s) (hinj : ∀ i j, i < n → j < n → ad i = ad j → i = j) (hlo : ∀ i, i < n → s.heap.size ≤ ad i) (hao : s.heap.size ≤ ao) (han : ¬ inW ad n ao) (hn : ce.length = n) (hFR : ∀ (k : Nat) (q : Nat × va_E), FR[k]? = some q → ¬ inW ad n q.1 ∧ q.1 ≠ ao)
    (hP : va_P D vwCl (wls ad ce) H) (hO : va_P D vwCl [(ao, oL oc o)] H) (hF : va_P D vwCl FR H) (hS : va_S (oldS s) s.heap H locs) (hnn : As.length = nn) (hsize : ls.size = nL) (hs0 : st0 = As.reverse ++ rest) (hroom : (rest.map fun v => v.category).sum ≤ 8) (hdg : decode cc pc = .ok (.invokestatic index, 3)) (hcs : cells + 1 ≤ R.cells ∧ slots + 6 ≤ R.slots)
    (kk : ∀ (H1 : Heap) (locs1 : List Loc), va_P D vwCl (wls ad r.2.1) H1 → va_P D vwCl [(ao, oL oc r.2.2)] H1 → va_P D vwCl FR H1 → va_S (oldS s) s.heap H1 locs1 → W p l e R s m args below meth c H1 locs1 (cells + 1) (slots + 6) Q (F0 m (pc + 3) ls (.int r.1 :: rest))) : W p l e R s m args below meth c H locs cells slots Q (F0 m pc ls st0) := by
  have hup : ∀ q, AL ad n ao H.size q → oldS s q := fun q h => h.elim (fun z => L_up hlo hS q z) (fun z => by rw [z]; exact hao)
  have hD : va_D (fun _ => True) ((ao, oL oc o) :: wls ad ce) := by
    refine ⟨fun i j p q hi hj hpq => ?_, fun _ _ _ => trivial⟩
    cases i with
    | zero =>
      cases j with
      | zero => rfl
      | succ j =>
        cases hi
        obtain ⟨h1, h2⟩ := wls_ad (show (wls ad ce)[j]? = some q from hj)
        exact absurd ⟨j, by omega, by rw [← h2]; exact hpq⟩ han
    | succ i =>
      obtain ⟨h1, h2⟩ := wls_ad (show (wls ad ce)[i]? = some p from hi)
      cases j with
      | zero =>
        cases hj
        exact absurd ⟨i, by omega, by rw [← h2]; exact hpq.symm⟩ han
      | succ j =>
        obtain ⟨h3, h4⟩ := wls_ad (show (wls ad ce)[j]? = some q from hj)
        rw [hinj i j (by omega) (by omega) (by rw [← h2, ← h4]; exact hpq)]
  have hblind : FrameBlind (LPre D ad tys ST ce ao oc o H.size As) := by
    intro a U g mk q
    obtain ⟨q0, q1, qP, qK, qD, qS⟩ := q
    exact ⟨q0, q1, qP, va_K.moved (u := U) (U := U.calling g mk a) (Vm.Alike.refl U.vm) qK, qD, hST.1 U (U.calling g mk a) _ (State.WarmedH.refl U) qS⟩
  refine va_calli (vx_runSW (rest := rest) S (hM H.size) cw ⟨hblind, fun U hU hW => ⟨rfl, by rw [hU], by rw [hU]; exact P_cons hO hP, va_K.moved hW.alike hK, hD, by rw [hU]; exact L_ST hST hst hS hW⟩⟩ rfl hnn hsize hs0 (lv_room hroom) hdg hcs) hS (fun q _ h => hup q h) (fun q h => hup q h) (fun r1 u t H1 locs1 ht hvm hp hB hz hk hS1 => ?_)
  subst hp
  rw [ht] at hB
  refine kk H1 locs1 (P_tl hB) (P_hd hB) (hF.kept (fun k q hq => hk q.1 (hF k q hq).lt ?_)) hS1
  rintro ((z | z) | z)
  · exact (hFR k q hq).1 z
  · exact absurd (hF k q hq).lt (Nat.not_lt.mpr z)
  · exact (hFR k q hq).2 z
end LR
/-! the law's own numbers: the script's ints behind place i -/
def sX (xs : Nat → Int32) (i : Nat) (k : Int32) : Int32 := xs (nI i + k).toNatClampNeg
theorem sX_in {i L : Nat} (hi : i + 6 ≤ L) (hL : L ≤ 3072) (k : Nat) (hk : k < 6) : vp_in (nI i + nI k) L := by
  rw [nI_add]
  exact vp_in_nI (by omega) (by omega)
/-- all that the law's loop keeps -/
def LWo (D : va_G) (b : Nat) (oc : ClassId) (ce cr : List va_E) (o : Nat → Int64) (s : State) (H : Heap) (locs : List Loc) : Prop :=
  va_P D vwCl (wls (adC b) ce) H ∧ va_P D vwCl (wls (nAt b 124) cr) H ∧ va_P D vwCl [(nA b 143, oL oc o)] H ∧ va_S (oldS s) s.heap H locs
theorem aC_inj {b : Nat} : ∀ i j, i < 124 → j < 124 → adC b i = adC b j → i = j := by
  intro i j hi hj h
  simp only [adC, nA] at h
  exact perm_inj hi hj (by omega)
theorem aR_inj {b : Nat} : ∀ i j, i < 19 → j < 19 → nAt b 124 i = nAt b 124 j → i = j := by
  intro i j hi hj h
  simp only [nAt, nA] at h
  omega
theorem aC_lo {b : Nat} : ∀ i, i < 124 → b ≤ adC b i := fun i _ => by simp only [adC, nA]; omega
theorem aR_lo {b : Nat} : ∀ i, i < 19 → b ≤ nAt b 124 i := fun i _ => by simp only [nAt, nA]; omega
theorem aC_no {b q : Nat} (h : b + 124 ≤ q) : ¬ inW (adC b) 124 q := by
  rintro ⟨k, hk, e⟩
  have := perm_lt k hk
  simp only [adC, nA] at e
  omega
theorem adR_no {b q : Nat} (h : q < b + 124 ∨ b + 143 ≤ q) : ¬ inW (nAt b 124) 19 q := by
  rintro ⟨k, hk, e⟩
  simp only [nAt, nA] at e
  omega
theorem FRC {D : va_G} {b : Nat} {cr : List va_E} {x : va_E} (hn : cr.length = 19) : ∀ (k : Nat) (q : Nat × va_E), ((nA b 143, x) :: wls (nAt b 124) cr)[k]? = some q → ¬ inW (adC b) 124 q.1 := by
  intro k q hk
  cases k with
  | zero => cases hk; exact aC_no (by simp only [nA]; omega)
  | succ k =>
    obtain ⟨h1, h2⟩ := wls_ad (show (wls (nAt b 124) cr)[k]? = some q from hk)
    rw [h2]
    exact aC_no (by simp only [nAt, nA]; omega)
theorem FRR {b : Nat} {ce : List va_E} {x : va_E} (hn : ce.length = 124) : ∀ (k : Nat) (q : Nat × va_E), ((nA b 143, x) :: wls (adC b) ce)[k]? = some q → ¬ inW (nAt b 124) 19 q.1 := by
  intro k q hk
  cases k with
  | zero => cases hk; exact adR_no (Or.inr (by simp only [nA]; omega))
  | succ k =>
    obtain ⟨h1, h2⟩ := wls_ad (show (wls (adC b) ce)[k]? = some q from hk)
    have := perm_lt k (by omega)
    rw [h2]
    exact adR_no (Or.inl (by simp only [adC, nA]; omega))
theorem FRW {b : Nat} {cr : List va_E} (hn : cr.length = 19) : ∀ (k : Nat) (q : Nat × va_E), (wls (nAt b 124) cr)[k]? = some q → ¬ inW (adC b) 124 q.1 ∧ q.1 ≠ nA b 143 := by
  intro k q hk
  obtain ⟨h1, h2⟩ := wls_ad hk
  rw [h2]
  exact ⟨aC_no (by simp only [nAt, nA]; omega), by simp only [nAt, nA]; omega⟩
section LL
variable {p : Program} {l : Launch} {e : Env} {s : State} {m : MethodId} {args : Array Value} {below : List Frame} {meth : Method} {c : Code} {H : Heap} {locs : List Loc} {cells slots : Nat} {Q : State → Prop}
variable {cc : ByteArray} {pc : Nat} {ls : Array Slot} {rest : List Value} {D : va_G} {y : Nat → ClassId} {ce cr : List va_E} {o : Nat → Int64} {oc : ClassId} {ST : State → Heap → Prop} {tys : List (ClassId × FieldType)}
variable {yy : MethodName} {bytes : ByteArray} {maxL nL nn index : Nat} {ret : Option FieldType} {ws : List Cond} {rm : Room} {Ts : List Cond} {own : String} {As : List Value} {st0 : List Value} {R : Room}
theorem L_C {r : Int32} {ce' : List va_E} (S : CallFix p m c cc nL s args Ts own) (hM : CTi l yy ws rm D (adC s.heap.size) 124 tys ST ce ce' (.ref (adC s.heap.size 0) :: As) r) (cw : CallW R s args own RX11 index yy bytes maxL ret ws rm 0 0 nn) (hST : STok (adC s.heap.size) 124 ST) (hst : ST s s.heap) (hK : va_K D vwCl tys s) (hce : ce.length = 124 ∧ (∃ fs, ce[0]? = some (.inr (9, fs))) ∧ cr.length = 19 ∧ ∃ fs, cr[0]? = some (.inr (10, fs))) (hw : LWo D s.heap.size oc ce cr o s H locs)
    (hnn : As.length = nn) (hsize : ls.size = nL) (hs0 : st0 = As.reverse ++ .ref (adC s.heap.size 0) :: rest) (hroom : (rest.map fun v => v.category).sum ≤ 8) (hdg : decode cc pc = .ok (.invokevirtual index, 3)) (hcs : cells ≤ R.cells ∧ slots ≤ R.slots)
    (kk : ∀ (H1 : Heap) (locs1 : List Loc), LWo D s.heap.size oc ce' cr o s H1 locs1 → W p l e R s m args below meth c H1 locs1 cells slots Q (F0 m (pc + 3) ls (.int r :: rest))) : W p l e R s m args below meth c H locs cells slots Q (F0 m pc ls st0) := by
  obtain ⟨h1, ⟨fs, h2⟩, h3, -⟩ := hce
  refine L_V (FR := (nA s.heap.size 143, oL oc o) :: wls (nAt s.heap.size 124) cr) S hM cw hST hst hK aC_inj aC_lo h1 (FRC (D := D) h3) hw.1 (P_cons hw.2.2.1 hw.2.1) hw.2.2.2 h2 rfl hnn hsize hs0 hroom hdg hcs (fun H1 locs1 a b c => ?_)
  exact kk H1 locs1 ⟨a, P_tl b, P_hd b, c⟩
theorem L_R {r : Int32} {cr' : List va_E} (S : CallFix p m c cc nL s args Ts own) (hM : CTi l yy ws rm D (nAt s.heap.size 124) 19 tys ST cr cr' (.ref (nAt s.heap.size 124 0) :: As) r) (cw : CallW R s args own RX12 index yy bytes maxL ret ws rm 0 0 nn) (hST : STok (nAt s.heap.size 124) 19 ST) (hst : ST s s.heap) (hK : va_K D vwCl tys s) (hce : ce.length = 124) (hcr : cr.length = 19) (hcr0 : ∃ fs, cr[0]? = some (.inr (10, fs))) (hw : LWo D s.heap.size oc ce cr o s H locs)
    (hnn : As.length = nn) (hsize : ls.size = nL) (hs0 : st0 = As.reverse ++ .ref (nAt s.heap.size 124 0) :: rest) (hroom : (rest.map fun v => v.category).sum ≤ 8) (hdg : decode cc pc = .ok (.invokevirtual index, 3)) (hcs : cells ≤ R.cells ∧ slots ≤ R.slots)
    (kk : ∀ (H1 : Heap) (locs1 : List Loc), LWo D s.heap.size oc ce cr' o s H1 locs1 → W p l e R s m args below meth c H1 locs1 cells slots Q (F0 m (pc + 3) ls (.int r :: rest))) : W p l e R s m args below meth c H locs cells slots Q (F0 m pc ls st0) := by
  obtain ⟨fs, h2⟩ := hcr0
  refine L_V (FR := (nA s.heap.size 143, oL oc o) :: wls (adC s.heap.size) ce) S hM cw hST hst hK aR_inj aR_lo hcr (FRR hce) hw.2.1 (P_cons hw.2.2.1 hw.1) hw.2.2.2 h2 rfl hnn hsize hs0 hroom hdg hcs (fun H1 locs1 a b c => ?_)
  exact kk H1 locs1 ⟨P_tl b, a, P_hd b, c⟩
theorem L_S {r : Int32 × List va_E × (Nat → Int64)} (S : CallFix p m c cc nL s args Ts own) (hM : CTL l yy ws rm D (adC s.heap.size) 124 tys ST ce (nA s.heap.size 143) oc o As r) {hh : List (Nat × Nat × Nat × Nat)} (cw : vx_CSW R s args own index yy bytes maxL ret hh ws rm 1 6 nn) (hST : STok (adC s.heap.size) 124 ST) (hst : ST s s.heap) (hK : va_K D vwCl tys s) (hce : ce.length = 124) (hcr : cr.length = 19) (hw : LWo D s.heap.size oc ce cr o s H locs)
    (hnn : As.length = nn) (hsize : ls.size = nL) (hs0 : st0 = As.reverse ++ rest) (hroom : (rest.map fun v => v.category).sum ≤ 8) (hdg : decode cc pc = .ok (.invokestatic index, 3)) (hcs : cells + 1 ≤ R.cells ∧ slots + 6 ≤ R.slots)
    (kk : ∀ (H1 : Heap) (locs1 : List Loc), LWo D s.heap.size oc r.2.1 cr r.2.2 s H1 locs1 → W p l e R s m args below meth c H1 locs1 (cells + 1) (slots + 6) Q (F0 m (pc + 3) ls (.int r.1 :: rest))) : W p l e R s m args below meth c H locs cells slots Q (F0 m pc ls st0) := by
  refine L_W (FR := wls (nAt s.heap.size 124) cr) S hM cw hST hst hK aC_inj aC_lo (by simp only [nA]; omega) (aC_no (by simp only [nA]; omega)) hce (FRW hcr) hw.1 hw.2.2.1 hw.2.1 hw.2.2.2 hnn hsize hs0 hroom hdg hcs (fun H1 locs1 a b c d => ?_)
  exact kk H1 locs1 ⟨a, c, b, d⟩
theorem STL_ok {ad adE adK adV : Nat → Nat} {tkA swA : Nat} {sa : Nat → Nat} : STok ad 124 (STL ad adE adK adV tkA swA sa) :=
  ⟨fun u U H hW h => ⟨STX_ok.1 u U H hW h.1, va_Nc.moved hW.alike h.2⟩, fun U H H1 hk h => ⟨STX_ok.2 U H H1 hk h.1, h.2⟩⟩
end LL
