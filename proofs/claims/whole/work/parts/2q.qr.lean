/-- the reference's inner loop of the quarrel -/
theorem bit01 (u : Int32) (t : Nat) : ((u >>> (nI t &&& 31)) &&& 1) = 0 ∨ ((u >>> (nI t &&& 31)) &&& 1) = 1 := by
  obtain ⟨j, hj, e⟩ := pk_andE (u >>> (nI t &&& 31)) (m := 1) 1 (by decide)
  rw [e]
  have : j = 0 ∨ j = 1 := by omega
  rcases this with rfl | rfl
  · exact Or.inl rfl
  · exact Or.inr rfl
theorem quK_R {Hn : Nat} (hH : Hn ≤ 20) {ma so on ot lo hi : Nat → Int32} {T : Nat → List Sy} (hT : TXr ma so on ot lo hi Hn T) (u : Int32) {t : Nat} (ht : t < 6) {st : (Nat → Int32) × List Nat} (hst : st.2.length ≤ 12 * t)
    (qs mb : Int32) (be ah mo le fr qr : Nat → Int32) (ha : ag72 le st.1) (hq : encQ qs qr st.2) :
    ∃ q, lp (f_X12_try0_l29 (nI Hn) u ma so on ot lo hi (nI t)) gFU (qs, 0, mb, be, ah, mo, le, fr, qr) = some q ∧ ag72 q.2.2.2.2.2.2.1 (if hearI u t then qK Hn T u t st (T t).length else st).1 ∧ encQ q.1 q.2.2.2.2.2.2.2.2 (if hearI u t then qK Hn T u t st (T t).length else st).2 := by
  obtain ⟨h2, h3, h4⟩ := hT t ht
  have clt : (nI t).toNatClampNeg = t := nI_clamp (by omega)
  have hin7 : vp_in (nI t) 7 := vp_in_nI (by omega) (by omega)
  refine lp_rule (body := f_X12_try0_l29 (nI Hn) u ma so on ot lo hi (nI t)) (fun sg => ∃ k : Nat, k ≤ (T t).length ∧ sg.2.1 = nI k ∧ ag72 sg.2.2.2.2.2.2.1 (if hearI u t then qK Hn T u t st k else st).1 ∧ encQ sg.1 sg.2.2.2.2.2.2.2.2 (if hearI u t then qK Hn T u t st k else st).2) (fun sg => (T t).length - sg.2.1.toNatClampNeg) (fun q => ag72 q.2.2.2.2.2.2.1 (if hearI u t then qK Hn T u t st (T t).length else st).1 ∧ encQ q.1 q.2.2.2.2.2.2.2.2 (if hearI u t then qK Hn T u t st (T t).length else st).2) ?_ gFU (qs, 0, mb, be, ah, mo, le, fr, qr) ⟨0, Nat.zero_le _, nI_0.symm, by split <;> exact ha, by split <;> exact hq⟩ (by show (T t).length - (0 : Int32).toNatClampNeg < 100000; omega)
  intro sg hinv
  obtain ⟨k, hk, ek, ea, eq⟩ := hinv
  unfold f_X12_try0_l29
  rw [ek]
  simp only [clt, gIn_of hin7, h2]
  by_cases hlt : k < (T t).length
  · rw [if_neg (nI_ge hlt (by omega))]
    have clk : (nI k).toNatClampNeg = k := nI_clamp (by omega)
    have mes : (T t).length - (nI k + 1).toNatClampNeg < (T t).length - (nI k).toNatClampNeg := by rw [nI_1, nI_clamp (by omega), clk]; omega
    have esl : (12 : Int32) * nI t + nI k = nI (12 * t + k) := by rw [show (12 : Int32) = nI 12 from rfl, pk_mul, nI_add]
    by_cases hh0 : ((u >>> (nI t &&& 31)) &&& 1) = 0
    · rw [if_pos hh0]
      have h9 : hearI u t = false := decide_eq_false (fun z => absurd (hh0.symm.trans z) (by decide))
      refine Or.inl ⟨_, rfl, ⟨k + 1, hlt, by rw [← nI_1], ?_, ?_⟩, mes⟩
      · rw [h9] at ea ⊢; exact ea
      · rw [h9] at eq ⊢; exact eq
    · rw [if_neg hh0]
      have h9 : hearI u t = true := decide_eq_true ((bit01 u t).resolve_left hh0)
      rw [h9] at ea eq
      simp only [if_true] at ea eq
      have en1 : vp_nar .boolean (1 : Int32) = 1 := rfl
      have en0 : vp_nar .boolean (0 : Int32) = 0 := rfl
      simp only [esl, gIn_of (vp_in_nI (show 12 * t + k < 84 by omega) (by omega)), nI_clamp (show 12 * t + k < 2 ^ 31 by omega), en1, en0]
      obtain ⟨q, e1, b1, b2, -⟩ := agreed_R hH hT sg.2.2.1 sg.2.2.2.1 sg.2.2.2.2.1 sg.2.2.2.2.2.1 (upd sg.2.2.2.2.2.2.1 (12 * t + k) 1) sg.2.2.2.2.2.2.2.1 u
      have hag := ag_upd ea (12 * t + k) 1
      rw [CE_ag (TXr_ok hT) hag] at b2
      rw [e1]; simp only [bs]
      by_cases hz : q.1 = 0
      · rw [if_pos hz]
        have hno : ¬ ∃ x, FS (CE Hn T (hearI u) (keepI (upd (qK Hn T u t st k).1 (12 * t + k) 1))) x := fun z => absurd (hz.symm.trans (b2.mpr z)) (by decide)
        refine Or.inl ⟨_, rfl, ⟨k + 1, hlt, by rw [← nI_1], ?_, ?_⟩, mes⟩
        · rw [h9]
          show ag72 _ (qS Hn T u t k (qK Hn T u t st k)).1
          unfold qS; rw [if_neg hno]; exact hag
        · rw [h9]
          show encQ _ _ (qS Hn T u t k (qK Hn T u t st k)).2
          unfold qS; rw [if_neg hno]; exact eq
      · rw [if_neg hz]
        have hyes := b2.mp (b1.resolve_left hz)
        have hl := qK_len k (Hn := Hn) (T := T) (u := u) (t := t) (st := st)
        have e100 : (100 : Int32) * nI t + nI k = nI (100 * t + k) := by rw [show (100 : Int32) = nI 100 from rfl, pk_mul, nI_add]
        obtain ⟨hi72, hadd⟩ := encQ_add eq (100 * t + k) _ e100 (by omega)
        rw [gIn_of hi72]
        refine Or.inl ⟨_, rfl, ⟨k + 1, hlt, by rw [← nI_1], ?_, ?_⟩, mes⟩
        · rw [h9]
          show ag72 _ (qS Hn T u t k (qK Hn T u t st k)).1
          unfold qS; rw [if_pos hyes]; exact ag_upd hag (12 * t + k) 0
        · rw [h9]
          show encQ _ _ (qS Hn T u t k (qK Hn T u t st k)).2
          unfold qS; rw [if_pos hyes]; exact hadd
  · obtain rfl : k = (T t).length := by omega
    rw [if_pos (nI_le (Nat.le_refl _) (by omega))]
    exact Or.inr ⟨_, rfl, ea, eq⟩
