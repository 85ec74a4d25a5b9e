/-- the reference's quarrel -/
theorem try_R {Hn : Nat} (hH : Hn ≤ 20) {ma so on ot lo hi : Nat → Int32} {T : Nat → List Sy} (hT : TXr ma so on ot lo hi Hn T) (u mb : Int32) (be ah mo le fr qr : Nat → Int32) :
    ∃ q, f_X12_try0 (nI Hn) u mb ma so on ot lo hi be ah mo le fr qr = some q ∧ (Feas Hn T u → q.1 = 0) ∧ (¬ Feas Hn T u → encQ q.1 q.2.2.2.2.2.2.2 (qT Hn T u 6).2) := by
  obtain ⟨q0, e0, h0⟩ := hearAll_R le
  obtain ⟨q1, e1, b1, b2, -⟩ := agreed_R hH hT mb be ah mo q0 fr u
  have hz72 : ∀ k, k < 72 → q0 k = 0 := fun k hk => h0 k (by omega)
  rw [CE_all (TXr_ok hT) hz72] at b2
  unfold f_X12_try0
  rw [e0]; simp only [bs]; rw [e1]; simp only [bs]
  by_cases hz : q1.1 = 0
  · rw [if_pos hz]
    have hnf : ¬ Feas Hn T u := fun hf => absurd (hz.symm.trans (b2.mpr hf)) (by decide)
    obtain ⟨t1, ht1, hq1⟩ := lp_rule (body := f_X12_try0_l21 (nI Hn) u ma so on ot lo hi) (fun sg => ∃ i : Nat, i ≤ 6 ∧ sg.2.1 = nI i ∧ ag72 sg.2.2.2.2.2.2.1 (qT Hn T u i).1 ∧ encQ sg.1 sg.2.2.2.2.2.2.2.2 (qT Hn T u i).2) (fun sg => 6 - sg.2.1.toNatClampNeg) (fun q => encQ q.1 q.2.2.2.2.2.2.2.2 (qT Hn T u 6).2)
      (by
        intro sg hinv
        obtain ⟨i, hi', ei, ea, eq⟩ := hinv
        unfold f_X12_try0_l21
        rw [ei]
        by_cases hlt : i < 6
        · have h6 : ¬ (6 : Int32) ≤ nI i := nI_ge (a := i) (b := 6) hlt (by omega)
          rw [if_neg h6]
          have mes : 6 - (nI i + 1).toNatClampNeg < 6 - (nI i).toNatClampNeg := by rw [nI_1, nI_clamp (by omega), nI_clamp (by omega)]; omega
          obtain ⟨q, e3, d1, d2⟩ := quK_R hH hT u hlt (st := qT Hn T u i) (qT_len (TXr_ok hT) i (by omega)) sg.1 sg.2.2.1 sg.2.2.2.1 sg.2.2.2.2.1 sg.2.2.2.2.2.1 sg.2.2.2.2.2.2.1 sg.2.2.2.2.2.2.2.1 sg.2.2.2.2.2.2.2.2 ea eq
          rw [e3]; simp only [bs]
          exact Or.inl ⟨_, rfl, ⟨i + 1, hlt, by rw [← nI_1], d1, d2⟩, mes⟩
        · obtain rfl : i = 6 := by omega
          rw [if_pos (show (6 : Int32) ≤ nI 6 by decide)]
          exact Or.inr ⟨_, rfl, eq⟩)
      gFU (0, 0, q1.2.1, q1.2.2.1, q1.2.2.2.1, q1.2.2.2.2.1, q0, q1.2.2.2.2.2, qr) ⟨0, by omega, nI_0.symm, hz72, ⟨rfl, fun i e h => by simp [qT] at h⟩⟩ (by show 6 - (0 : Int32).toNatClampNeg < 100000; omega)
    rw [ht1]
    exact ⟨_, rfl, fun hf => absurd hf hnf, fun _ => hq1⟩
  · rw [if_neg hz]
    have hf : Feas Hn T u := b2.mp (b1.resolve_left hz)
    exact ⟨_, rfl, fun _ => rfl, fun hnf => absurd hf hnf⟩
