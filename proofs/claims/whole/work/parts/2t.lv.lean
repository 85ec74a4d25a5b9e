/-! leave: the fewest, then the least, that leave a way to the others -/
def bc6 (j : Nat) : Nat := j % 2 + j / 2 % 2 + j / 4 % 2 + j / 8 % 2 + j / 16 % 2 + j / 32 % 2
theorem bcnt_C : ∀ j, j < 64 → f_J6_bitCount_0f7a4 (nI j) = some (nI (bc6 j)) := by decide +kernel
theorem bcnt_R : ∀ j, j < 64 → f_X12_bitsOf (nI j) = some (nI (bc6 j)) := by decide +kernel
theorem bc_le (j : Nat) : bc6 j ≤ 6 := by unfold bc6; omega
theorem bc_0 : ∀ j, j < 64 → bc6 j = 0 → j = 0 := by decide +kernel
theorem bc_63 : ∀ j, j < 64 → 6 ≤ bc6 j → j = 63 := by decide +kernel
theorem bc_sub : ∀ u, u < 64 → ∀ j, j < 64 → (nI j &&& (nI u ^^^ (-1))) = 0 → bc6 u ≤ bc6 j → j = u := by decide +kernel
theorem sub_self : ∀ u, u < 64 → (nI u &&& (nI u ^^^ (-1))) = 0 := by decide +kernel
theorem sub_zero : ∀ u, u < 64 → (nI 0 &&& (nI u ^^^ (-1))) = 0 ∧ (nI u &&& (nI 0 ^^^ (-1))) = nI u := by decide +kernel
def lvO (Hn : Nat) (T : Nat → List Sy) (u : Nat) (j : Nat) : Prop := (nI j &&& (nI u ^^^ (-1))) = 0 ∧ Feas Hn T (nI u &&& (nI j ^^^ (-1)))
def lvS (Hn : Nat) (T : Nat → List Sy) (u : Nat) (r : Int32) : Prop := ∃ j, j < 64 ∧ r = nI j ∧ lvO Hn T u j ∧ ∀ i, i < 64 → lvO Hn T u i → bc6 j < bc6 i ∨ (bc6 j = bc6 i ∧ j ≤ i)
theorem lvS_one {Hn : Nat} {T : Nat → List Sy} {u : Nat} {r r' : Int32} (h : lvS Hn T u r) (h' : lvS Hn T u r') : r = r' := by
  obtain ⟨j, h1, h2, h3, h4⟩ := h
  obtain ⟨j', h1', h2', h3', h4'⟩ := h'
  have a := h4 j' h1' h3'
  have b := h4' j h1 h3
  rw [h2, h2', show j = j' by omega]
theorem feas_0 (Hn : Nat) (T : Nat → List Sy) : Feas Hn T 0 := by
  refine ⟨fun _ => 0, FS_app.mpr ⟨(FS_baseK Hn).mpr (fun h _ => ⟨Int.le_refl _, Int.le_refl _, by omega⟩), (FS_tellK 6).mpr (fun t k s ht hh => ?_)⟩⟩
  have : t = 0 ∨ t = 1 ∨ t = 2 ∨ t = 3 ∨ t = 4 ∨ t = 5 := by omega
  rcases this with rfl | rfl | rfl | rfl | rfl | rfl <;> exact absurd hh (by decide)
theorem lvO_self (Hn : Nat) (T : Nat → List Sy) {u : Nat} (hu : u < 64) : lvO Hn T u u := ⟨sub_self u hu, by rw [sub_self u hu]; exact feas_0 Hn T⟩
theorem leave_R {Hn : Nat} (hH : Hn ≤ 20) {ma so on ot lo hi : Nat → Int32} {T : Nat → List Sy} (hT : TXr ma so on ot lo hi Hn T) {u : Nat} (hu : u < 64) (th mb : Int32) (be ah mo le fr : Nat → Int32) :
    ∃ q, f_X12_leave th (nI Hn) (nI u) mb ma so on ot lo hi be ah mo le fr = some q ∧ lvS Hn T u q.1 ∧ q.2.1 = 0 := by
  obtain ⟨q0, e0, h0⟩ := hearAll_R le
  have hz72 : ∀ k, k < 72 → q0 k = 0 := fun k hk => h0 k (by omega)
  obtain ⟨t1, ht1, hq1⟩ := lp_rule (body := f_X12_leave_l16 0 (nI Hn) (nI u) ma so on ot lo hi q0) (fun sg => ∃ s b : Nat, s ≤ 64 ∧ b < 64 ∧ sg.2.1 = nI s ∧ sg.1 = nI b ∧ lvO Hn T u b ∧ (b < s ∨ b = u) ∧ ∀ i, i < s → lvO Hn T u i → bc6 b < bc6 i ∨ (bc6 b = bc6 i ∧ b ≤ i)) (fun sg => 64 - sg.2.1.toNatClampNeg) (fun q => lvS Hn T u q.1)
    (by
      intro sg hinv
      obtain ⟨s, b, hs, hb, es, eb, ob, hbs, hmin⟩ := hinv
      unfold f_X12_leave_l16
      rw [es, eb]
      by_cases hlt : s < 64
      · have h6 : ¬ (64 : Int32) ≤ nI s := nI_ge (a := s) (b := 64) hlt (by omega)
        rw [if_neg h6]
        have mes : 64 - (nI s + 1).toNatClampNeg < 64 - (nI s).toNatClampNeg := by rw [nI_1, nI_clamp (by omega), nI_clamp (by omega)]; omega
        have keep : ∀ (hno : lvO Hn T u s → bc6 b ≤ bc6 s), ∀ i, i < s + 1 → lvO Hn T u i → bc6 b < bc6 i ∨ (bc6 b = bc6 i ∧ b ≤ i) := by
          intro hno i hi hoi
          by_cases his : i < s
          · exact hmin i his hoi
          · obtain rfl : i = s := by omega
            have h1 := hno hoi
            by_cases h2 : bc6 b < bc6 i
            · exact Or.inl h2
            · refine Or.inr ⟨by omega, ?_⟩
              rcases hbs with h3 | h3
              · omega
              · subst h3
                rw [bc_sub b hb i hlt hoi.1 h1]
                exact Nat.le_refl _
        have hbs' : b < s + 1 ∨ b = u := hbs.imp (fun h => by omega) id
        by_cases hsub : (nI s &&& (nI u ^^^ (-1))) = 0
        · rw [if_pos hsub, bcnt_R s hlt, bcnt_R b hb]
          simp only [bs]
          have b1 := bc_le s
          have b2 := bc_le b
          by_cases hle : nI (bc6 b) ≤ nI (bc6 s)
          · rw [if_pos hle]
            have hle2 : bc6 b ≤ bc6 s := by
              rw [i_le, nI_toInt (by omega), nI_toInt (by omega)] at hle; omega
            exact Or.inl ⟨_, rfl, ⟨s + 1, b, hlt, hb, by rw [← nI_1], rfl, ob, hbs', keep (fun _ => hle2)⟩, mes⟩
          · rw [if_neg hle]
            have hle2 : bc6 s < bc6 b := by
              rw [i_le, nI_toInt (by omega), nI_toInt (by omega)] at hle; omega
            obtain ⟨q, e1, c1, c2, -⟩ := agreed_R hH hT sg.2.2.1 sg.2.2.2.1 sg.2.2.2.2.1 sg.2.2.2.2.2.1 q0 sg.2.2.2.2.2.2 (nI u &&& (nI s ^^^ (-1)))
            rw [CE_all (TXr_ok hT) hz72] at c2
            rw [e1]; simp only [bs]
            by_cases hz : q.1 = 0
            · rw [if_pos hz]
              exact Or.inl ⟨_, rfl, ⟨s + 1, b, hlt, hb, by rw [← nI_1], rfl, ob, hbs', keep (fun ho => absurd (hz.symm.trans (c2.mpr ho.2)) (by decide))⟩, mes⟩
            · rw [if_neg hz]
              have hf := c2.mp (c1.resolve_left hz)
              refine Or.inl ⟨_, rfl, ⟨s + 1, s, hlt, hlt, by rw [← nI_1], rfl, ⟨hsub, hf⟩, Or.inl (by omega), ?_⟩, mes⟩
              intro i hi hoi
              by_cases his : i < s
              · have := hmin i his hoi
                exact Or.inl (by omega)
              · obtain rfl : i = s := by omega
                exact Or.inr ⟨rfl, Nat.le_refl _⟩
        · rw [if_neg hsub]
          exact Or.inl ⟨_, rfl, ⟨s + 1, b, hlt, hb, by rw [← nI_1], rfl, ob, hbs', keep (fun ho => absurd ho.1 hsub)⟩, mes⟩
      · obtain rfl : s = 64 := by omega
        rw [if_pos (show (64 : Int32) ≤ nI 64 by decide)]
        exact Or.inr ⟨_, rfl, ⟨b, hb, rfl, ob, hmin⟩⟩)
    gFU (nI u, 0, mb, be, ah, mo, fr) ⟨0, u, by omega, hu, nI_0.symm, rfl, lvO_self Hn T hu, Or.inr rfl, fun i hi => absurd hi (Nat.not_lt_zero i)⟩ (by show 64 - (0 : Int32).toNatClampNeg < 100000; omega)
  unfold f_X12_leave
  rw [e0]; simp only [bs]; rw [ht1]
  exact ⟨_, rfl, hq1, rfl⟩
theorem lvin_C {Hn : Nat} (hH : Hn ≤ 20) {tt : Nat → Nat} {sz : Nat → Int32} {w : Nat → Nat} {ow ot fs sn : Nat → Int32} {T : Nat → List Sy} (hT : TXc tt sz w ow ot fs sn Hn T) (wk wy mn ms : Int32) (ts hs gs l0 lo : Nat → Int32) {u : Nat} (hu : u < 64) (hlo : ∀ k, k < 72 → lo k = 0) (h0 : ¬ lvO Hn T u 0) (f : Nat) (hf0 : 1 ≤ f) (hf : f < 6) (hmin : ∀ i, i < 64 → lvO Hn T u i → f ≤ bc6 i) :
    ∃ q, lp (f_X1_fewestToLeave_l19 (nI Hn) tt (nI u) wk wy lo sz w ow ot fs sn (nI f)) gFU (1, mn, ms, ts, hs, gs, l0) = some q ∧ Sum.elim (fun _ => ∀ i, i < 64 → lvO Hn T u i → f + 1 ≤ bc6 i) (fun r => lvS Hn T u r.1 ∧ r.2.1 = wk ∧ r.2.2.1 = wy) q := by
  refine lp_rule (body := f_X1_fewestToLeave_l19 (nI Hn) tt (nI u) wk wy lo sz w ow ot fs sn (nI f)) (fun sg => ∃ j : Nat, 1 ≤ j ∧ j ≤ 63 ∧ sg.1 = nI j ∧ ∀ i, i < j → lvO Hn T u i → bc6 i ≠ f) (fun sg => 63 - sg.1.toNatClampNeg) (fun q => Sum.elim (fun _ => ∀ i, i < 64 → lvO Hn T u i → f + 1 ≤ bc6 i) (fun r => lvS Hn T u r.1 ∧ r.2.1 = wk ∧ r.2.2.1 = wy) q) ?_ gFU (1, mn, ms, ts, hs, gs, l0) ⟨1, Nat.le_refl _, by omega, rfl, fun i hi hoi => absurd (show lvO Hn T u 0 by rw [show (0 : Nat) = i by omega]; exact hoi) h0⟩ (by show 63 - (1 : Int32).toNatClampNeg < 100000; omega)
  intro sg hinv
  obtain ⟨j, hj1, hj, ej, hne⟩ := hinv
  unfold f_X1_fewestToLeave_l19
  rw [ej]
  by_cases hlt : j < 63
  · have h6 : ¬ (63 : Int32) ≤ nI j := nI_ge (a := j) (b := 63) hlt (by omega)
    rw [if_neg h6]
    have mes : 63 - (nI j + 1).toNatClampNeg < 63 - (nI j).toNatClampNeg := by rw [nI_1, nI_clamp (by omega), nI_clamp (by omega)]; omega
    have ext : ∀ (hno : lvO Hn T u j → bc6 j ≠ f), ∀ i, i < j + 1 → lvO Hn T u i → bc6 i ≠ f := by
      intro hno i hi hoi
      by_cases hij : i < j
      · exact hne i hij hoi
      · obtain rfl : i = j := by omega
        exact hno hoi
    unfold f_X1_fewestToLeave_b41
    by_cases hsub : (nI j &&& (nI u ^^^ (-1))) = 0
    · rw [if_pos hsub, if_neg (show ¬ (1 : Int32) = 0 by decide), bcnt_C j (by omega)]
      simp only [bs]
      have b1 := bc_le j
      by_cases hb : nI (bc6 j) = nI f
      · rw [if_pos hb]
        have hb2 : bc6 j = f := (nI_eq (by omega) (by omega)).mp hb
        obtain ⟨q, e1, c1, c2, -⟩ := isWay_C hH hT sg.2.1 sg.2.2.1 sg.2.2.2.1 sg.2.2.2.2.1 sg.2.2.2.2.2.1 sg.2.2.2.2.2.2 lo (nI u &&& (nI j ^^^ (-1)))
        rw [CE_all (TXc_ok hT) hlo] at c2
        rw [e1]; simp only [bs]
        by_cases hz : q.1 = 0
        · rw [if_pos hz]
          exact Or.inl ⟨_, rfl, ⟨j + 1, by omega, hlt, by rw [← nI_1], ext (fun ho => absurd (hz.symm.trans (c2.mpr ho.2)) (by decide))⟩, mes⟩
        · rw [if_neg hz]
          have hfe := c2.mp (c1.resolve_left hz)
          refine Or.inr ⟨_, rfl, ⟨j, by omega, rfl, ⟨hsub, hfe⟩, fun i hi hoi => ?_⟩, rfl, rfl⟩
          have h1 := hmin i hi hoi
          by_cases h2 : bc6 i = f
          · refine Or.inr ⟨by omega, ?_⟩
            exact Nat.le_of_not_lt (fun h3 => hne i h3 hoi h2)
          · exact Or.inl (by omega)
      · rw [if_neg hb]
        exact Or.inl ⟨_, rfl, ⟨j + 1, by omega, hlt, by rw [← nI_1], ext (fun _ h => hb (by rw [h]))⟩, mes⟩
    · rw [if_neg hsub, if_pos rfl]
      exact Or.inl ⟨_, rfl, ⟨j + 1, by omega, hlt, by rw [← nI_1], ext (fun ho => absurd ho.1 hsub)⟩, mes⟩
  · obtain rfl : j = 63 := by omega
    rw [if_pos (show (63 : Int32) ≤ nI 63 by decide)]
    refine Or.inr ⟨_, rfl, ?_⟩
    show ∀ i, i < 64 → lvO Hn T u i → f + 1 ≤ bc6 i
    intro i hi hoi
    have h1 := hmin i hi hoi
    by_cases h2 : i < 63
    · have := hne i h2 hoi; omega
    · obtain rfl : i = 63 := by omega
      have : bc6 63 = 6 := by decide
      omega
theorem leave_C {Hn : Nat} (hH : Hn ≤ 20) {tt : Nat → Nat} {sz : Nat → Int32} {w : Nat → Nat} {ow ot fs sn : Nat → Int32} {T : Nat → List Sy} (hT : TXc tt sz w ow ot fs sn Hn T) (wk wy mn ms : Int32) (ts hs gs l0 lo : Nat → Int32) {u : Nat} (hu : u < 64) (hlo : ∀ k, k < 72 → lo k = 0) (hw : wayI wk wy (Feas Hn T (nI u))) :
    ∃ q, f_X11_leave (nI Hn) tt (nI u) wk wy mn ms ts hs gs l0 lo sz w ow ot fs sn = some q ∧ lvS Hn T u q.1 ∧ wayI q.2.1 q.2.2.1 (Feas Hn T (nI u)) := by
  obtain ⟨q, eq, b1, b2, b3, b4⟩ := hasWay_C hH hT wk wy mn ms ts hs gs l0 lo (nI u) hlo hw
  have hw2 : wayI q.2.1 q.2.2.1 (Feas Hn T (nI u)) := ⟨Or.inr b3, by rw [b4]; exact b1, fun _ => by rw [b4]; exact b2⟩
  obtain ⟨z1, z2⟩ := sub_zero u hu
  unfold f_X11_leave f_X1_fewestToLeave
  rw [eq]; simp only [bs]
  by_cases hz : q.1 = 0
  · rw [if_pos hz]
    have hnf : ¬ Feas Hn T (nI u) := fun hf => absurd (hz.symm.trans (b2.mpr hf)) (by decide)
    have h0 : ¬ lvO Hn T u 0 := fun h => hnf (by have := h.2; rw [z2] at this; exact this)
    have hself := lvO_self Hn T hu
    obtain ⟨t1, ht1, hq1⟩ := lp_rule (body := f_X1_fewestToLeave_l11 (nI Hn) tt (nI u) q.2.1 q.2.2.1 lo sz w ow ot fs sn) (fun sg => ∃ f : Nat, 1 ≤ f ∧ f ≤ 6 ∧ sg.1 = nI f ∧ ∀ i, i < 64 → lvO Hn T u i → f ≤ bc6 i) (fun sg => 6 - sg.1.toNatClampNeg) (fun p => Sum.elim (fun _ => lvS Hn T u (nI u)) (fun r => lvS Hn T u r.1 ∧ r.2.1 = q.2.1 ∧ r.2.2.1 = q.2.2.1) p)
      (by
        intro sg hinv
        obtain ⟨f, hf1, hf, ef, hmin⟩ := hinv
        unfold f_X1_fewestToLeave_l11
        rw [ef]
        by_cases hlt : f < 6
        · have h6 : ¬ (6 : Int32) ≤ nI f := nI_ge (a := f) (b := 6) hlt (by omega)
          rw [if_neg h6]
          have mes : 6 - (nI f + 1).toNatClampNeg < 6 - (nI f).toNatClampNeg := by rw [nI_1, nI_clamp (by omega), nI_clamp (by omega)]; omega
          obtain ⟨p, ep, hp⟩ := lvin_C hH hT q.2.1 q.2.2.1 sg.2.1 sg.2.2.1 sg.2.2.2.1 sg.2.2.2.2.1 sg.2.2.2.2.2.1 sg.2.2.2.2.2.2 lo hu hlo h0 f hf1 hlt hmin
          rw [ep]; simp only [bs]
          cases p with
          | inl a => exact Or.inl ⟨_, rfl, ⟨f + 1, by omega, hlt, by rw [← nI_1], hp⟩, mes⟩
          | inr r => exact Or.inr ⟨_, rfl, hp⟩
        · obtain rfl : f = 6 := by omega
          rw [if_pos (show (6 : Int32) ≤ nI 6 by decide)]
          refine Or.inr ⟨_, rfl, ?_⟩
          refine ⟨u, hu, rfl, hself, fun i hi hoi => Or.inr ?_⟩
          have e1 := bc_63 u hu (hmin u hu hself)
          have e2 := bc_63 i hi (hmin i hi hoi)
          subst e1; subst e2
          exact ⟨rfl, Nat.le_refl _⟩)
      gFU (1, q.2.2.2.1, q.2.2.2.2.1, q.2.2.2.2.2.1, q.2.2.2.2.2.2.1, q.2.2.2.2.2.2.2.1, q.2.2.2.2.2.2.2.2) ⟨1, Nat.le_refl _, by omega, rfl, fun i hi hoi => by
        by_cases hi0 : bc6 i = 0
        · have : i = 0 := bc_0 i hi hi0
          subst this; exact absurd hoi h0
        · omega⟩ (by show 6 - (1 : Int32).toNatClampNeg < 100000; omega)
    rw [ht1]; simp only [bs]
    cases t1 with
    | inl a => exact ⟨_, rfl, hq1, hw2⟩
    | inr r =>
      refine ⟨_, rfl, hq1.1, ?_⟩
      show wayI r.2.1 r.2.2.1 _
      rw [hq1.2.1, hq1.2.2]; exact hw2
  · rw [if_neg hz]
    have hf := b2.mp (b1.resolve_left hz)
    refine ⟨_, rfl, ⟨0, by omega, rfl, ⟨z1, by rw [z2]; exact hf⟩, fun i hi hoi => ?_⟩, hw2⟩
    have e0 : bc6 0 = 0 := by decide
    omega
