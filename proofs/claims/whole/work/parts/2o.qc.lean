/-- the class's inner loop of the quarrel -/
theorem quK_C {Hn : Nat} (hH : Hn ≤ 20) {tt : Nat → Nat} {sz : Nat → Int32} {w : Nat → Nat} {ow ot fs sn : Nat → Int32} {T : Nat → List Sy} (hT : TXc tt sz w ow ot fs sn Hn T) (u qk : Int32) {t : Nat} (ht : t < 6) (hh : hearI u t = true) {st : (Nat → Int32) × List Nat} (hst : st.2.length ≤ 12 * t)
    (qs mn ms : Int32) (ts hs gs l0 lo qr : Nat → Int32) (ha : ag72 lo st.1) (hq : encQ qs qr st.2) :
    ∃ q, lp (f_X1_findQuarrel_l28 (nI Hn) tt u qk sz w ow ot fs sn (nI t)) gFU (0, qs, mn, ms, ts, hs, gs, l0, lo, qr) = some q ∧ ag72 q.2.2.2.2.2.2.2.2.1 (qK Hn T u t st (T t).length).1 ∧ encQ q.2.1 q.2.2.2.2.2.2.2.2.2 (qK Hn T u t st (T t).length).2 := by
  obtain ⟨h1, h2, h3, h4⟩ := hT t ht
  have clt : (nI t).toNatClampNeg = t := nI_clamp (by omega)
  have hin6 : vp_in (nI t) 6 := vp_in_nI ht (by omega)
  refine lp_rule (body := f_X1_findQuarrel_l28 (nI Hn) tt u qk sz w ow ot fs sn (nI t)) (fun sg => ∃ k : Nat, k ≤ (T t).length ∧ sg.1 = nI k ∧ ag72 sg.2.2.2.2.2.2.2.2.1 (qK Hn T u t st k).1 ∧ encQ sg.2.1 sg.2.2.2.2.2.2.2.2.2 (qK Hn T u t st k).2) (fun sg => (T t).length - sg.1.toNatClampNeg) (fun q => ag72 q.2.2.2.2.2.2.2.2.1 (qK Hn T u t st (T t).length).1 ∧ encQ q.2.1 q.2.2.2.2.2.2.2.2.2 (qK Hn T u t st (T t).length).2) ?_ gFU (0, qs, mn, ms, ts, hs, gs, l0, lo, qr) ⟨0, Nat.zero_le _, nI_0.symm, ha, hq⟩ (by show (T t).length - (0 : Int32).toNatClampNeg < 100000; omega)
  intro sg hinv
  obtain ⟨k, hk, ek, ea, eq⟩ := hinv
  unfold f_X1_findQuarrel_l28
  rw [hears_C, if_pos hh, ek]
  simp only [bs]
  rw [if_neg (show ¬ (1 : Int32) = 0 by decide)]
  simp only [clt, gIn_of hin6, gN_of h1, h2]
  by_cases hlt : k < (T t).length
  · rw [if_neg (nI_ge hlt (by omega))]
    have clk : (nI k).toNatClampNeg = k := nI_clamp (by omega)
    have esl : f_X1_slot (nI t) (nI k) = some (nI (12 * t + k)) := by
      unfold f_X1_slot
      rw [show (12 : Int32) = nI 12 from rfl, pk_mul, nI_add, Nat.mul_comm]
    have mes : (T t).length - (nI k + 1).toNatClampNeg < (T t).length - (nI k).toNatClampNeg := by rw [nI_1, nI_clamp (by omega), clk]; omega
    simp only [esl, bs, gIn_of (vp_in_nI (show 12 * t + k < 72 by omega) (by omega)), nI_clamp (show 12 * t + k < 2 ^ 31 by omega)]
    have en1 : vp_nar .boolean (1 : Int32) = 1 := rfl
    have en0 : vp_nar .boolean (0 : Int32) = 0 := rfl
    rw [en1, en0]
    obtain ⟨q, e1, b1, b2, -⟩ := isWay_C hH hT sg.2.2.1 sg.2.2.2.1 sg.2.2.2.2.1 sg.2.2.2.2.2.1 sg.2.2.2.2.2.2.1 sg.2.2.2.2.2.2.2.1 (upd sg.2.2.2.2.2.2.2.2.1 (12 * t + k) 1) u
    have hag := ag_upd ea (12 * t + k) 1
    rw [CE_ag (TXc_ok hT) hag] at b2
    rw [e1]; simp only [bs]
    by_cases hz : q.1 = 0
    · rw [if_pos hz]
      have hno : ¬ ∃ x, FS (CE Hn T (hearI u) (keepI (upd (qK Hn T u t st k).1 (12 * t + k) 1))) x := fun z => absurd (hz.symm.trans (b2.mpr z)) (by decide)
      refine Or.inl ⟨_, rfl, ⟨k + 1, hlt, by rw [← nI_1], ?_, ?_⟩, mes⟩
      · show ag72 _ (qS Hn T u t k (qK Hn T u t st k)).1
        unfold qS
        rw [if_neg hno]
        exact hag
      · show encQ _ _ (qS Hn T u t k (qK Hn T u t st k)).2
        unfold qS
        rw [if_neg hno]
        exact eq
    · rw [if_neg hz]
      have hyes := b2.mp (b1.resolve_left hz)
      have hl := qK_len k (Hn := Hn) (T := T) (u := u) (t := t) (st := st)
      have e100 : (100 : Int32) * nI t + nI k = nI (100 * t + k) := by rw [show (100 : Int32) = nI 100 from rfl, pk_mul, nI_add]
      obtain ⟨hi72, hadd⟩ := encQ_add eq (100 * t + k) _ e100 (by omega)
      rw [gIn_of hi72]
      refine Or.inl ⟨_, rfl, ⟨k + 1, hlt, by rw [← nI_1], ?_, ?_⟩, mes⟩
      · show ag72 _ (qS Hn T u t k (qK Hn T u t st k)).1
        unfold qS
        rw [if_pos hyes]
        exact ag_upd hag (12 * t + k) 0
      · show encQ _ _ (qS Hn T u t k (qK Hn T u t st k)).2
        unfold qS
        rw [if_pos hyes]
        exact hadd
  · obtain rfl : k = (T t).length := by omega
    rw [if_pos (nI_le (Nat.le_refl _) (by omega))]
    exact Or.inr ⟨_, rfl, ea, eq⟩
