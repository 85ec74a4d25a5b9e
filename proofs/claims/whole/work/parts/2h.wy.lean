theorem TXc_ok {tt : Nat → Nat} {sz : Nat → Int32} {w : Nat → Nat} {ow ot fs sn : Nat → Int32} {Hn : Nat} {T : Nat → List Sy} (h : TXc tt sz w ow ot fs sn Hn T) : TOk Hn T := fun t ht => ⟨(h t ht).2.2.1, fun k s hs => ((h t ht).2.2.2 k s hs).1⟩
theorem TXr_ok {ma so on ot lo hi : Nat → Int32} {Hn : Nat} {T : Nat → List Sy} (h : TXr ma so on ot lo hi Hn T) : TOk Hn T := fun t ht => ⟨(h t ht).2.1, fun k s hs => ((h t ht).2.2 k s hs).1⟩
theorem isWay_C {Hn : Nat} (hH : Hn ≤ 20) {tt : Nat → Nat} {sz : Nat → Int32} {w : Nat → Nat} {ow ot fs sn : Nat → Int32} {T : Nat → List Sy} (hT : TXc tt sz w ow ot fs sn Hn T) (mn ms : Int32) (ts hs gs l0 lo : Nat → Int32) (u : Int32) :
    ∃ q, f_X1_isWayFor (nI Hn) tt mn ms ts hs gs l0 lo sz w ow ot fs sn u = some q ∧ (q.1 = 0 ∨ q.1 = 1) ∧ (q.1 = 1 ↔ ∃ x, FS (CE Hn T (hearI u) (keepI lo)) x) ∧
      ((∃ x, FS (CE Hn T (hearI u) (keepI lo)) x) → ∀ v, v < 1 + 2 * Hn → isL (CE Hn T (hearI u) (keepI lo)) 0 v (q.2.2.2.2.2.2 v).toInt) := by
  obtain ⟨q0, e0, n0, d0⟩ := gather_C hH hT mn ms ts hs gs lo u
  obtain ⟨q1, e1, h1, h2, h3⟩ := meas_C hH (TXc_ok hT) d0 l0 0 (by omega)
  unfold f_X1_isWayFor
  rw [e0]; simp only [bs]
  rw [n0, show (0 : Int32) = nI 0 from rfl, e1]; simp only [bs]
  rw [gB_of h1]
  exact ⟨_, rfl, h1, h2 rfl, fun hex v hv => (h3 hex).2 v hv⟩
theorem least_C {Hn : Nat} (hH : Hn ≤ 20) {tt : Nat → Nat} {sz : Nat → Int32} {w : Nat → Nat} {ow ot fs sn : Nat → Int32} {T : Nat → List Sy} (hT : TXc tt sz w ow ot fs sn Hn T) (mn ms : Int32) (ts hs gs l0 lo : Nat → Int32) (u : Int32) (hex : ∃ x, FS (CE Hn T (hearI u) (keepI lo)) x) {a b : Nat} (ha : a < 1 + 2 * Hn) (hb : b < 1 + 2 * Hn) :
    ∃ q, f_X1_least (nI Hn) tt u mn ms ts hs gs l0 lo sz w ow ot fs sn (nI a) (nI b) = some q ∧ isL (CE Hn T (hearI u) (keepI lo)) a b q.1.toInt := by
  obtain ⟨q0, e0, n0, d0⟩ := gather_C hH hT mn ms ts hs gs lo u
  obtain ⟨q1, e1, h1, h2, h3⟩ := meas_C hH (TXc_ok hT) d0 l0 a ha
  unfold f_X1_least
  rw [e0]; simp only [bs]
  rw [n0, e1]; simp only [bs]
  rw [gIn_of (vp_in_nI (show b < 41 by omega) (by omega)), nI_clamp (by omega)]
  exact ⟨_, rfl, (h3 hex).2 b hb⟩
theorem hearAll_R (le : Nat → Int32) : ∃ q, f_X12_hearAll le = some q ∧ ∀ k, k < 84 → q k = 0 := by
  obtain ⟨t, ht, hp⟩ := lp_rule (body := f_X12_hearAll_l2) (fun sg => ∃ i : Nat, i ≤ 84 ∧ sg.1 = nI i ∧ ∀ v, v < i → sg.2 v = 0) (fun sg => 84 - sg.1.toNatClampNeg) (fun q => ∀ v, v < 84 → q.2 v = 0)
    (by
      intro sg hinv
      obtain ⟨i, hi, ei, hv⟩ := hinv
      unfold f_X12_hearAll_l2
      rw [ei]
      by_cases hlt : i < 84
      · have hc : ¬ (84 : Int32) ≤ nI i := nI_ge (a := i) (b := 84) hlt (by omega)
        have cl : (nI i).toNatClampNeg = i := nI_clamp (by omega)
        rw [if_neg hc, gIn_of (vp_in_nI hlt (by omega)), cl]
        refine Or.inl ⟨_, rfl, ⟨i + 1, hlt, by rw [← nI_1], fun v hv2 => ?_⟩, ?_⟩
        · show upd sg.2 i (vp_nar .boolean 0) v = 0
          by_cases h : v = i
          · subst h; rw [upd_s]; rfl
          · rw [upd_n h]; exact hv v (by omega)
        · show 84 - (nI i + 1).toNatClampNeg < 84 - i
          rw [nI_1, nI_clamp (by omega)]; omega
      · obtain rfl : i = 84 := by omega
        rw [if_pos (show (84 : Int32) ≤ nI 84 by decide)]
        exact Or.inr ⟨_, rfl, hv⟩)
    gFU (0, le) ⟨0, by omega, nI_0.symm, fun v hv => absurd hv (Nat.not_lt_zero v)⟩ (by show 84 - (0 : Int32).toNatClampNeg < 100000; omega)
  unfold f_X12_hearAll
  rw [ht]
  exact ⟨_, rfl, hp⟩
theorem agreed_R {Hn : Nat} (hH : Hn ≤ 20) {ma so on ot lo hi : Nat → Int32} {T : Nat → List Sy} (hT : TXr ma so on ot lo hi Hn T) (mb : Int32) (be ah mo le fr : Nat → Int32) (u : Int32) :
    ∃ q, f_X12_isAgreed (nI Hn) mb ma so on ot lo hi be ah mo le fr u = some q ∧ (q.1 = 0 ∨ q.1 = 1) ∧ (q.1 = 1 ↔ ∃ x, FS (CE Hn T (hearI u) (keepI le)) x) ∧ encB q.2.1 q.2.2.1 q.2.2.2.1 q.2.2.2.2.1 (BE Hn T (hearI u) (keepI le)) := by
  obtain ⟨q0, e0, d0⟩ := gather_R hH hT mb be ah mo le u
  obtain ⟨⟨q1, e1, h1, h2⟩, -⟩ := goes_R hH (TXr_ok hT) d0 fr
  unfold f_X12_isAgreed
  rw [e0]; simp only [bs]
  rw [e1]; simp only [bs]
  rw [gB_of h1]
  exact ⟨_, rfl, h1, h2, d0⟩
theorem mostOf_R {Hn : Nat} (hH : Hn ≤ 20) {T : Nat → List Sy} (hT : TOk Hn T) {hear : Nat → Bool} {keep : Nat → Nat → Bool} {m : Int32} {be ah mo : Nat → Int32} (he : encB m be ah mo (BE Hn T hear keep)) (fr : Nat → Int32) (hex : ∃ x, FS (CE Hn T hear keep) x) {a b : Nat} (ha : a < 1 + 2 * Hn) (hb : b < 1 + 2 * Hn) :
    ∃ q, f_X12_mostOf (nI Hn) m be ah mo fr (nI a) (nI b) = some q ∧ isL (CE Hn T hear keep) b a (-q.1.toInt) := by
  obtain ⟨q1, e1, h1, h2⟩ := (goes_R hH hT he fr).2 a ha hex
  unfold f_X12_mostOf
  rw [e1]; simp only [bs]
  rw [gIn_of (vp_in_nI (show b < 41 by omega) (by omega)), nI_clamp (by omega)]
  exact ⟨_, rfl, h2 b hb⟩
