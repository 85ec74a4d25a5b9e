/-- the class's quarrel, when it isn't known yet -/
theorem quar_C {Hn : Nat} (hH : Hn ≤ 20) {tt : Nat → Nat} {sz : Nat → Int32} {w : Nat → Nat} {ow ot fs sn : Nat → Int32} {T : Nat → List Sy} (hT : TXc tt sz w ow ot fs sn Hn T) (u qs mn ms : Int32) (ts hs gs l0 lo qr : Nat → Int32) (hlo : ∀ k, k < 72 → lo k = 0) :
    ∃ q, f_X1_findQuarrel (nI Hn) tt u qs 0 mn ms ts hs gs l0 lo qr sz w ow ot fs sn = some q ∧ encQ q.1 q.2.2.2.2.2.2.2.2.2 (qT Hn T u 6).2 ∧ q.2.1 = 1 ∧ ∀ k, k < 72 → q.2.2.2.2.2.2.2.2.1 k = 0 := by
  obtain ⟨t1, ht1, ha1, hq1⟩ := lp_rule (body := f_X1_findQuarrel_l20 (nI Hn) tt u 1 sz w ow ot fs sn) (fun sg => ∃ i : Nat, i ≤ 6 ∧ sg.1 = nI i ∧ ag72 sg.2.2.2.2.2.2.2.2.1 (qT Hn T u i).1 ∧ encQ sg.2.1 sg.2.2.2.2.2.2.2.2.2 (qT Hn T u i).2) (fun sg => 6 - sg.1.toNatClampNeg) (fun q => ag72 q.2.2.2.2.2.2.2.2.1 (qT Hn T u 6).1 ∧ encQ q.2.1 q.2.2.2.2.2.2.2.2.2 (qT Hn T u 6).2)
    (by
      intro sg hinv
      obtain ⟨i, hi, ei, ea, eq⟩ := hinv
      unfold f_X1_findQuarrel_l20
      rw [ei]
      by_cases hlt : i < 6
      · have h6 : ¬ (6 : Int32) ≤ nI i := nI_ge (a := i) (b := 6) hlt (by omega)
        rw [if_neg h6]
        have mes : 6 - (nI i + 1).toNatClampNeg < 6 - (nI i).toNatClampNeg := by rw [nI_1, nI_clamp (by omega), nI_clamp (by omega)]; omega
        by_cases hh : hearI u i = true
        · obtain ⟨q, e1, d1, d2⟩ := quK_C hH hT u 1 hlt hh (st := qT Hn T u i) (qT_len (TXc_ok hT) i (by omega)) sg.2.1 sg.2.2.1 sg.2.2.2.1 sg.2.2.2.2.1 sg.2.2.2.2.2.1 sg.2.2.2.2.2.2.1 sg.2.2.2.2.2.2.2.1 sg.2.2.2.2.2.2.2.2.1 sg.2.2.2.2.2.2.2.2.2 ea eq
          rw [e1]; simp only [bs]
          refine Or.inl ⟨_, rfl, ⟨i + 1, hlt, by rw [← nI_1], ?_, ?_⟩, mes⟩
          · show ag72 _ (qT Hn T u (i + 1)).1
            unfold qT; rw [if_pos hh]; exact d1
          · show encQ _ _ (qT Hn T u (i + 1)).2
            unfold qT; rw [if_pos hh]; exact d2
        · have hstop : lp (f_X1_findQuarrel_l28 (nI Hn) tt u 1 sz w ow ot fs sn (nI i)) gFU (0, sg.2.1, sg.2.2.1, sg.2.2.2.1, sg.2.2.2.2.1, sg.2.2.2.2.2.1, sg.2.2.2.2.2.2.1, sg.2.2.2.2.2.2.2.1, sg.2.2.2.2.2.2.2.2.1, sg.2.2.2.2.2.2.2.2.2) = some (0, sg.2.1, sg.2.2.1, sg.2.2.2.1, sg.2.2.2.2.1, sg.2.2.2.2.2.1, sg.2.2.2.2.2.2.1, sg.2.2.2.2.2.2.2.1, sg.2.2.2.2.2.2.2.2.1, sg.2.2.2.2.2.2.2.2.2) := by
            show lp _ (99999 + 1) _ = _
            unfold lp f_X1_findQuarrel_l28
            rw [hears_C, if_neg hh]
            simp only [bs]
            rfl
          rw [hstop]; simp only [bs]
          refine Or.inl ⟨_, rfl, ⟨i + 1, hlt, by rw [← nI_1], ?_, ?_⟩, mes⟩
          · show ag72 _ (qT Hn T u (i + 1)).1
            unfold qT; rw [if_neg hh]; exact ea
          · show encQ _ _ (qT Hn T u (i + 1)).2
            unfold qT; rw [if_neg hh]; exact eq
      · obtain rfl : i = 6 := by omega
        rw [if_pos (show (6 : Int32) ≤ nI 6 by decide)]
        exact Or.inr ⟨_, rfl, ea, eq⟩)
    gFU (0, 0, mn, ms, ts, hs, gs, l0, lo, qr) ⟨0, by omega, nI_0.symm, hlo, ⟨rfl, fun i e h => by simp [qT] at h⟩⟩ (by show 6 - (0 : Int32).toNatClampNeg < 100000; omega)
  obtain ⟨t2, ht2, hz2⟩ := lp_rule (body := f_X1_findQuarrel_l121 (nI Hn) tt u t1.2.1 1 t1.2.2.1 t1.2.2.2.1 t1.2.2.2.2.1 t1.2.2.2.2.2.1 t1.2.2.2.2.2.2.1 t1.2.2.2.2.2.2.2.1 t1.2.2.2.2.2.2.2.2.2 sz w ow ot fs sn) (fun sg => ∃ i : Nat, i ≤ 72 ∧ sg.1 = nI i ∧ ∀ v, v < i → sg.2 v = 0) (fun sg => 72 - sg.1.toNatClampNeg) (fun q => ∀ v, v < 72 → q.2 v = 0)
    (by
      intro sg hinv
      obtain ⟨i, hi, ei, hv⟩ := hinv
      unfold f_X1_findQuarrel_l121
      rw [ei]
      by_cases hlt : i < 72
      · have hc : ¬ (72 : Int32) ≤ nI i := nI_ge (a := i) (b := 72) hlt (by omega)
        have cl : (nI i).toNatClampNeg = i := nI_clamp (by omega)
        rw [if_neg hc, gIn_of (vp_in_nI hlt (by omega)), cl]
        refine Or.inl ⟨_, rfl, ⟨i + 1, hlt, by rw [← nI_1], fun v hv2 => ?_⟩, ?_⟩
        · show upd sg.2 i (vp_nar .boolean 0) v = 0
          by_cases h : v = i
          · subst h; rw [upd_s]; rfl
          · rw [upd_n h]; exact hv v (by omega)
        · show 72 - (nI i + 1).toNatClampNeg < 72 - i
          rw [nI_1, nI_clamp (by omega)]; omega
      · obtain rfl : i = 72 := by omega
        rw [if_pos (show (72 : Int32) ≤ nI 72 by decide)]
        exact Or.inr ⟨_, rfl, hv⟩)
    gFU (0, t1.2.2.2.2.2.2.2.2.1) ⟨0, by omega, nI_0.symm, fun v hv => absurd hv (Nat.not_lt_zero v)⟩ (by show 72 - (0 : Int32).toNatClampNeg < 100000; omega)
  unfold f_X1_findQuarrel
  rw [if_pos rfl, ht1]; simp only [bs]; rw [ht2]
  exact ⟨_, rfl, hq1, rfl, hz2⟩
