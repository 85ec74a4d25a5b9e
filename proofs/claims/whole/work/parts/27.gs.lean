/-- what goes(p1) does over bounds that are in order: p1 is -1 (all days at 0), or one day -/
theorem goes_spec {n Hn : Nat} {ah be mo : Nat → Int32} {tl hd : Nat → Nat} {gp : Nat → Int} (hk : bdOk n ah be mo tl hd gp (1 + 2 * Hn)) (hn : n ≤ 348) (hH : Hn ≤ 20) (l0 : Nat → Int32) (p1 : Int32) :
    ∃ q, f_X12_goes (nI Hn) (nI n) be ah mo l0 p1 = some q ∧ (q.1 = 0 ∨ q.1 = 1) ∧
      (q.1 = 1 → (∀ i, i < n → ng q.2 (tl i) = urR ∨ ng q.2 (tl i) + gp i ≤ ng q.2 (hd i)) ∧ ∀ v, v < 1 + 2 * Hn → (p1 = -1 ∨ nI v = p1) → 0 ≤ ng q.2 v) ∧
      (∀ (L : Nat → Int) (An : Nat → Prop), good n tl hd gp (1 + 2 * Hn) urR An L → (∀ v, An v → v < 1 + 2 * Hn ∧ (p1 = -1 ∨ nI v = p1) ∧ L v = 0) → (∃ v, An v) → (∀ v, v < 1 + 2 * Hn → (p1 = -1 ∨ nI v = p1) → 0 ≤ L v) → q.1 = 1 ∧ ∀ v, v < 1 + 2 * Hn → ng q.2 v = L v) := by
  have eN : (1 : Int32) + 2 * nI Hn = nI (1 + 2 * Hn) := by
    rw [show (2 : Int32) = nI 2 from rfl, show (1 : Int32) = nI 1 from rfl, pk_mul, nI_add]
  obtain ⟨N, hNe⟩ : ∃ N, N = 1 + 2 * Hn := ⟨_, rfl⟩
  rw [← hNe] at hk eN ⊢
  have hN : N ≤ 41 := by omega
  obtain ⟨q1, hq1, hi1⟩ := goes_init hN (mh := nI Hn) (mb := nI n) (be := be) (ah := ah) (mo := mo) p1 l0
  have hkk : ∀ i, i < n → tl i < N ∧ hd i < N := fun i hi => ⟨(hk i hi).2.2.2.1, (hk i hi).2.2.2.2.1⟩
  have hloop := lp_rule (body := f_X12_goes_l46 (nI Hn) (nI n) be ah mo (nI N))
    (fun sg => ∃ k : Nat, k ≤ N + 1 ∧ sg.1 = nI k ∧ frB (9999 * 348 * (k : Int)) sg.2 N ∧ (∀ v, v < N → (p1 = -1 ∨ nI v = p1) → 0 ≤ ng sg.2 v) ∧
      (∀ (L : Nat → Int) (An : Nat → Prop), good n tl hd gp N urR An L → (∀ v, An v → v < N ∧ (p1 = -1 ∨ nI v = p1) ∧ L v = 0) → (∃ v, An v) → (∀ v, v < N → (p1 = -1 ∨ nI v = p1) → 0 ≤ L v) → (∀ v, An v → ng sg.2 v = L v) ∧ (∀ v, v < N → ng sg.2 v = urR ∨ ng sg.2 v ≤ L v) ∧ k + 1 ≤ eqc (ng sg.2) L N))
    (fun sg => N + 1 - sg.1.toNatClampNeg)
    (fun o => (∃ t, o = .inl t ∧ ∀ (L : Nat → Int) (An : Nat → Prop), good n tl hd gp N urR An L → (∀ v, An v → v < N ∧ (p1 = -1 ∨ nI v = p1) ∧ L v = 0) → (∃ v, An v) → (∀ v, v < N → (p1 = -1 ∨ nI v = p1) → 0 ≤ L v) → False) ∨ ∃ r : Int32 × (Nat → Int32), o = .inr r ∧ r.1 = 1 ∧
      ((∀ i, i < n → ng r.2 (tl i) = urR ∨ ng r.2 (tl i) + gp i ≤ ng r.2 (hd i)) ∧ ∀ v, v < N → (p1 = -1 ∨ nI v = p1) → 0 ≤ ng r.2 v) ∧
      (∀ (L : Nat → Int) (An : Nat → Prop), good n tl hd gp N urR An L → (∀ v, An v → v < N ∧ (p1 = -1 ∨ nI v = p1) ∧ L v = 0) → (∃ v, An v) → (∀ v, v < N → (p1 = -1 ∨ nI v = p1) → 0 ≤ L v) → ∀ v, v < N → ng r.2 v = L v))
    (by
      intro sg hinv
      obtain ⟨k, hkN, ek, hB, h0, hL⟩ := hinv
      unfold f_X12_goes_l46
      rw [ek]
      by_cases hlt : k < N + 1
      · rw [if_neg (nI_nlt (by omega) (by omega))]
        obtain ⟨t, ht, hb2, hr, hz0⟩ := pull_all hk (by omega) hN (B := 9999 * 348 * (k : Int)) (by omega) (by omega) hB (nI Hn) (nI N) (nI k)
        rw [ht]
        simp only [bs]
        by_cases hz : t.1 = 0
        · rw [if_pos hz]
          have hsame := hz0 hz
          refine Or.inr ⟨_, rfl, Or.inr ⟨(1, t.2.2), rfl, rfl, ⟨fun i hi => ?_, fun v hv ha => ?_⟩, fun L An hg hA hex hnn => ?_⟩⟩
          · show ng t.2.2 (tl i) = urR ∨ ng t.2.2 (tl i) + gp i ≤ ng t.2.2 (hd i)
            have h3 := hr.2.2.1 i hi
            rw [hsame] at h3 ⊢
            by_cases hu : ng sg.2 (tl i) = urR
            · exact Or.inl hu
            · exact Or.inr (h3 hu)
          · show 0 ≤ ng t.2.2 v
            rw [hsame]; exact h0 v hv ha
          · obtain ⟨a1, a2, a3⟩ := hL L An hg hA hex hnn
            have gr := rnd_grow hkk hg hr a2 a1
            intro v hv
            show ng t.2.2 v = L v
            rcases gr.2.2 with z | z
            · exact gr.2.1 v hv (z v hv)
            · exact absurd z (by rw [hsame]; exact Nat.lt_irrefl _)
        · rw [if_neg hz]
          refine Or.inl ⟨_, rfl, ⟨k + 1, hlt, by rw [← nI_1], frB_mono hb2 (by omega), fun v hv ha => ?_, fun L An hg hA hex hnn => ?_⟩, ?_⟩
          · show 0 ≤ ng t.2.2 v
            have h1 := h0 v hv ha
            have h2 := hr.1 v hv
            omega
          · obtain ⟨a1, a2, a3⟩ := hL L An hg hA hex hnn
            have gr := rnd_grow hkk hg hr a2 a1
            refine ⟨fun v hv => gr.2.1 v (hA v hv).1 (a1 v hv), gr.1, ?_⟩
            rcases gr.2.2 with z | z
            · exact absurd hz (rnd_still hg hr z)
            · show k + 1 + 1 ≤ eqc (ng t.2.2) L N
              omega
          · show N + 1 - (nI k + 1).toNatClampNeg < N + 1 - (nI k).toNatClampNeg
            rw [nI_1, nI_clamp (by omega), nI_clamp (by omega)]; omega
      · obtain rfl : k = N + 1 := by omega
        rw [if_pos (nI_lt (by omega) (by omega))]
        refine Or.inr ⟨_, rfl, Or.inl ⟨_, rfl, fun L An hg hA hex hnn => ?_⟩⟩
        obtain ⟨a1, a2, a3⟩ := hL L An hg hA hex hnn
        exact absurd (Nat.le_trans a3 (ct_le _ _)) (by omega))
    gFU (0, q1.2) ⟨0, Nat.zero_le _, nI_0.symm, ?_, ?_, ?_⟩ (by show N + 1 - (0 : Int32).toNatClampNeg < 100000; omega)
  · obtain ⟨o, ho, hpost⟩ := hloop
    unfold f_X12_goes
    rw [eN, hq1]
    simp only [bs]
    rw [ho]
    simp only [bs]
    rcases hpost with ⟨t, e1, h1⟩ | ⟨r, e1, h1, h2, h3⟩
    · subst e1
      exact ⟨(0, t.2), rfl, Or.inl rfl, fun h => absurd h (show ¬ (0 : Int32) = 1 by decide), fun L An hg hA hex hnn => (h1 L An hg hA hex hnn).elim⟩
    · subst e1
      exact ⟨r, rfl, Or.inr h1, fun _ => h2, fun L An hg hA hex hnn => ⟨h1, h3 L An hg hA hex hnn⟩⟩
  · intro v hv
    show -(9999 * 348 * ((0 : Nat) : Int)) ≤ (q1.2 v).toInt ∧ (q1.2 v).toInt ≤ 100000000
    rw [hi1 v hv]
    split <;> exact ⟨by decide, by decide⟩
  · intro v hv ha
    show 0 ≤ -(q1.2 v).toInt
    rw [hi1 v hv, if_pos ha]; decide
  · intro L An hg hA hex hnn
    have hAn : ∀ v, An v → ng q1.2 v = L v := by
      intro v hv
      obtain ⟨h1, h2, h3⟩ := hA v hv
      show -(q1.2 v).toInt = L v
      rw [hi1 v h1, if_pos h2, h3]; rfl
    refine ⟨hAn, fun v hv => ?_, ?_⟩
    · show -(q1.2 v).toInt = urR ∨ -(q1.2 v).toInt ≤ L v
      rw [hi1 v hv]
      by_cases ha : p1 = -1 ∨ nI v = p1
      · rw [if_pos ha]
        have := hnn v hv ha
        exact Or.inr this
      · rw [if_neg ha]; exact Or.inl rfl
    · obtain ⟨v, hv⟩ := hex
      exact ct_pos N ⟨v, (hA v hv).1, decide_eq_true (hAn v hv)⟩
