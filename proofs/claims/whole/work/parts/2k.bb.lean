theorem bound_C {Hn : Nat} (hH : Hn ≤ 20) {tt : Nat → Nat} {sz : Nat → Int32} {w : Nat → Nat} {ow ot fs sn : Nat → Int32} {T : Nat → List Sy} (hT : TXc tt sz w ow ot fs sn Hn T) (wk wy mn ms : Int32) (ts hs gs l0 lo : Nat → Int32) (u : Int32) (hlo : ∀ k, k < 72 → lo k = 0) (hw : wayI wk wy (Feas Hn T u)) (p1 p2 : Int32) :
    ∃ q, f_X11_bound (nI Hn) tt u wk wy mn ms ts hs gs l0 lo sz w ow ot fs sn p1 p2 = some q ∧ bndS Hn T u p1 p2 q.1 ∧ wayI q.2.1 q.2.2.1 (Feas Hn T u) := by
  unfold f_X11_bound
  rcases has_C hH p1 with ⟨h, hh, rfl, e⟩ | ⟨hno, e⟩
  · rw [e]; simp only [bs]
    rw [if_neg (show ¬ (1 : Int32) = 0 by decide)]
    obtain ⟨q, eq, b1, b2, b3, b4⟩ := hasWay_C hH hT wk wy mn ms ts hs gs l0 lo u hlo hw
    rw [eq]; simp only [bs]
    have hw2 : wayI q.2.1 q.2.2.1 (Feas Hn T u) := ⟨Or.inr b3, by rw [b4]; exact b1, fun _ => by rw [b4]; exact b2⟩
    by_cases hz : q.1 = 0
    · rw [if_pos hz]
      have hnf : ¬ Feas Hn T u := fun hf => absurd (hz.symm.trans (b2.mpr hf)) (by decide)
      exact ⟨_, rfl, ⟨fun k hk ek hf => absurd hf hnf, fun _ => rfl⟩, hw2⟩
    · rw [if_neg hz]
      have hf : Feas Hn T u := b2.mp (b1.resolve_left hz)
      have e9 := CE_all (TXc_ok hT) hlo (u := u)
      have hinj : ∀ k, k < Hn → nI h = nI k → k = h := fun k hk ek => ((nI_eq (by omega) (by omega)).mp ek).symm
      have hex : ∃ x, FS (CE Hn T (hearI u) (keepI lo)) x := by rw [e9]; exact hf
      have hin : ¬ (∀ k, k < Hn → ¬ nI h = nI k) := fun z => z h hh rfl
      by_cases c0 : p2 = 0
      · rw [if_pos c0]; simp only [fo, bs]
        obtain ⟨q2, e2, d2⟩ := least_C hH hT q.2.2.2.1 q.2.2.2.2.1 q.2.2.2.2.2.1 q.2.2.2.2.2.2.1 q.2.2.2.2.2.2.2.1 q.2.2.2.2.2.2.2.2 lo u hex (a := 0) (b := 1 + 2 * h) (by omega) (by omega)
        rw [show (0 : Int32) = nI 0 from rfl, e2]; simp only [bs]
        rw [e9] at d2
        refine ⟨_, rfl, ⟨fun k hk ek _ => ?_, fun z => ?_⟩, hw2⟩
        · rw [hinj k hk ek]
          exact ⟨fun _ => d2, fun z => absurd (c0.symm.trans z) (by decide), fun z => absurd (c0.symm.trans z) (by decide), fun z => absurd (c0.symm.trans z) (by decide)⟩
        · rcases z with z | z | z
          · exact absurd z hin
          · exact absurd hf z
          · exact absurd c0 z.1
      · rw [if_neg c0]
        by_cases c1 : p2 = 1
        · rw [if_pos c1]; simp only [fo, bs]
          obtain ⟨q2, e2, d2⟩ := greatest_C hH hT q.2.2.2.1 q.2.2.2.2.1 q.2.2.2.2.2.1 q.2.2.2.2.2.2.1 q.2.2.2.2.2.2.2.1 q.2.2.2.2.2.2.2.2 lo u hlo hf (a := 0) (b := 1 + 2 * h) (by omega) (by omega)
          rw [show (0 : Int32) = nI 0 from rfl, e2]; simp only [bs]
          refine ⟨_, rfl, ⟨fun k hk ek _ => ?_, fun z => ?_⟩, hw2⟩
          · rw [hinj k hk ek]
            exact ⟨fun z => absurd (c1.symm.trans z) (by decide), fun _ => d2, fun z => absurd (c1.symm.trans z) (by decide), fun z => absurd (c1.symm.trans z) (by decide)⟩
          · rcases z with z | z | z
            · exact absurd z hin
            · exact absurd hf z
            · exact absurd c1 z.2.1
        · rw [if_neg c1]
          by_cases c2 : p2 = 2
          · rw [if_pos c2]; simp only [la, bs]
            obtain ⟨q2, e2, d2⟩ := least_C hH hT q.2.2.2.1 q.2.2.2.2.1 q.2.2.2.2.2.1 q.2.2.2.2.2.2.1 q.2.2.2.2.2.2.2.1 q.2.2.2.2.2.2.2.2 lo u hex (a := 0) (b := 2 + 2 * h) (by omega) (by omega)
            rw [show (0 : Int32) = nI 0 from rfl, e2]; simp only [bs]
            rw [e9] at d2
            refine ⟨_, rfl, ⟨fun k hk ek _ => ?_, fun z => ?_⟩, hw2⟩
            · rw [hinj k hk ek]
              exact ⟨fun z => absurd (c2.symm.trans z) (by decide), fun z => absurd (c2.symm.trans z) (by decide), fun _ => d2, fun z => absurd (c2.symm.trans z) (by decide)⟩
            · rcases z with z | z | z
              · exact absurd z hin
              · exact absurd hf z
              · exact absurd c2 z.2.2.1
          · rw [if_neg c2]
            by_cases c3 : p2 = 3
            · rw [if_pos c3]; simp only [la, bs]
              obtain ⟨q2, e2, d2⟩ := greatest_C hH hT q.2.2.2.1 q.2.2.2.2.1 q.2.2.2.2.2.1 q.2.2.2.2.2.2.1 q.2.2.2.2.2.2.2.1 q.2.2.2.2.2.2.2.2 lo u hlo hf (a := 0) (b := 2 + 2 * h) (by omega) (by omega)
              rw [show (0 : Int32) = nI 0 from rfl, e2]; simp only [bs]
              refine ⟨_, rfl, ⟨fun k hk ek _ => ?_, fun z => ?_⟩, hw2⟩
              · rw [hinj k hk ek]
                exact ⟨fun z => absurd (c3.symm.trans z) (by decide), fun z => absurd (c3.symm.trans z) (by decide), fun z => absurd (c3.symm.trans z) (by decide), fun _ => d2⟩
              · rcases z with z | z | z
                · exact absurd z hin
                · exact absurd hf z
                · exact absurd c3 z.2.2.2
            · rw [if_neg c3]
              exact ⟨_, rfl, ⟨fun k hk ek _ => ⟨fun z => absurd z c0, fun z => absurd z c1, fun z => absurd z c2, fun z => absurd z c3⟩, fun _ => rfl⟩, hw2⟩
  · rw [e]; simp only [bs]
    rw [if_pos trivial]
    exact ⟨_, rfl, ⟨fun k hk ek _ => absurd ek (hno k hk), fun _ => rfl⟩, hw⟩

theorem bound_R {Hn : Nat} (hH : Hn ≤ 20) {ma so on ot lo hi : Nat → Int32} {T : Nat → List Sy} (hT : TXr ma so on ot lo hi Hn T) (mb : Int32) (be ah mo le fr : Nat → Int32) (u : Int32) (th p1 p2 : Int32) :
    ∃ q, f_X12_bound th (nI Hn) u mb ma so on ot lo hi be ah mo le fr p1 p2 = some q ∧ bndS Hn T u p1 p2 q.1 ∧ q.2.1 = 0 := by
  unfold f_X12_bound
  rcases has_R hH p1 with ⟨h, hh, rfl, e⟩ | ⟨hno, e⟩
  · rw [e]; simp only [bs]
    rw [if_neg (show ¬ (1 : Int32) = 0 by decide)]
    have hin : ¬ (∀ k, k < Hn → ¬ nI h = nI k) := fun z => z h hh rfl
    have hinj : ∀ k, k < Hn → nI h = nI k → k = h := fun k hk ek => ((nI_eq (by omega) (by omega)).mp ek).symm
    have hbad : (p2 < 0 ∨ 3 < p2) → bndS Hn T u (nI h) p2 (-1) := by
      intro hb
      refine ⟨fun k hk ek _ => ?_, fun _ => rfl⟩
      have n0 : ∀ j : Int32, (j = 0 ∨ j = 1 ∨ j = 2 ∨ j = 3) → ¬ p2 = j := by
        intro j hj ej
        subst ej
        rcases hj with rfl | rfl | rfl | rfl <;> revert hb <;> decide
      exact ⟨fun z => absurd z (n0 0 (by simp)), fun z => absurd z (n0 1 (by simp)), fun z => absurd z (n0 2 (by simp)), fun z => absurd z (n0 3 (by simp))⟩
    by_cases c1 : p2 < 0
    · rw [if_pos c1]; exact ⟨_, rfl, hbad (Or.inl c1), rfl⟩
    · rw [if_neg c1]
      by_cases c2 : 3 < p2
      · rw [if_pos c2]; exact ⟨_, rfl, hbad (Or.inr c2), rfl⟩
      · rw [if_neg c2]
        obtain ⟨q, eq, b1, b2, b3, b4⟩ := agree_R hH hT 0 mb be ah mo le fr u
        rw [eq]; simp only [bs]
        by_cases hz : q.1 = 0
        · rw [if_pos hz]
          have hnf : ¬ Feas Hn T u := fun hf => absurd (hz.symm.trans (b2.mpr hf)) (by decide)
          exact ⟨_, rfl, ⟨fun k hk ek hf => absurd hf hnf, fun _ => rfl⟩, b3⟩
        · rw [if_neg hz]
          have hf : Feas Hn T u := b2.mp (b1.resolve_left hz)
          obtain ⟨j, hj, rfl⟩ := nI_of2 (M := 3) (n := 3) rfl c1 (i_le.mpr (Int.not_lt.mp (fun z => c2 (i_lt.mpr z))))
          have hj4 : j = 0 ∨ j = 1 ∨ j = 2 ∨ j = 3 := by omega
          have mk : ∀ (d : Nat), d < 1 + 2 * Hn → ∃ r, f_X12_mostOf (nI Hn) q.2.2.1 q.2.2.2.1 q.2.2.2.2.1 q.2.2.2.2.2.1 q.2.2.2.2.2.2.2 (nI d) 0 = some r ∧ isL (AE Hn T u) 0 d (-r.1.toInt) := fun d hd => mostOf_R hH (TXr_ok hT) b4 q.2.2.2.2.2.2.2 hf (a := d) (b := 0) hd (by omega)
          have mk2 : ∀ (d : Nat), d < 1 + 2 * Hn → ∃ r, f_X12_mostOf (nI Hn) q.2.2.1 q.2.2.2.1 q.2.2.2.2.1 q.2.2.2.2.2.1 q.2.2.2.2.2.2.2 0 (nI d) = some r ∧ isL (AE Hn T u) d 0 (-r.1.toInt) := fun d hd => mostOf_R hH (TXr_ok hT) b4 q.2.2.2.2.2.2.2 hf (a := 0) (b := d) (by omega) hd
          have t0 : ∀ (z : Prop), ((∀ k, k < Hn → ¬ nI h = nI k) ∨ ¬ Feas Hn T u ∨ z) → z := fun z hz2 => hz2.elim (fun y => absurd y hin) (fun y => y.elim (fun y => absurd hf y) id)
          rcases hj4 with rfl | rfl | rfl | rfl
          · rw [if_pos (by decide)]
            obtain ⟨r, er, dr⟩ := mk (1 + 2 * h) (by omega)
            rw [n1, show nI 0 / 2 = (0 : Int32) by decide, show nI (1 + 2 * h) + 0 = nI (1 + 2 * h) by rw [show (0 : Int32) = nI 0 from rfl, nI_add, Nat.add_zero], er]
            simp only [bs]
            have hr := isL_rng (by omega) (by omega) dr
            refine ⟨_, rfl, ⟨fun k hk ek _ => ?_, fun z => absurd rfl (t0 _ z).1⟩, b3⟩
            rw [hinj k hk ek]
            refine ⟨fun _ => ?_, fun z => absurd z (by decide), fun z => absurd z (by decide), fun z => absurd z (by decide)⟩
            show isL _ 0 (1 + 2 * h) (-r.1).toInt
            rw [i_neg (by omega)]; exact dr
          · rw [if_neg (by decide)]
            obtain ⟨r, er, dr⟩ := mk2 (1 + 2 * h) (by omega)
            rw [n1, show nI 1 / 2 = (0 : Int32) by decide, show nI (1 + 2 * h) + 0 = nI (1 + 2 * h) by rw [show (0 : Int32) = nI 0 from rfl, nI_add, Nat.add_zero], er]
            simp only [bs]
            refine ⟨_, rfl, ⟨fun k hk ek _ => ?_, fun z => absurd rfl (t0 _ z).2.1⟩, b3⟩
            rw [hinj k hk ek]
            exact ⟨fun z => absurd z (by decide), fun _ => dr, fun z => absurd z (by decide), fun z => absurd z (by decide)⟩
          · rw [if_pos (by decide)]
            obtain ⟨r, er, dr⟩ := mk (2 + 2 * h) (by omega)
            rw [n1, show nI 2 / 2 = (1 : Int32) by decide, n2, er]
            simp only [bs]
            have hr := isL_rng (by omega) (by omega) dr
            refine ⟨_, rfl, ⟨fun k hk ek _ => ?_, fun z => absurd rfl (t0 _ z).2.2.1⟩, b3⟩
            rw [hinj k hk ek]
            refine ⟨fun z => absurd z (by decide), fun z => absurd z (by decide), fun _ => ?_, fun z => absurd z (by decide)⟩
            show isL _ 0 (2 + 2 * h) (-r.1).toInt
            rw [i_neg (by omega)]; exact dr
          · rw [if_neg (by decide)]
            obtain ⟨r, er, dr⟩ := mk2 (2 + 2 * h) (by omega)
            rw [n1, show nI 3 / 2 = (1 : Int32) by decide, n2, er]
            simp only [bs]
            refine ⟨_, rfl, ⟨fun k hk ek _ => ?_, fun z => absurd rfl (t0 _ z).2.2.2⟩, b3⟩
            rw [hinj k hk ek]
            exact ⟨fun z => absurd z (by decide), fun z => absurd z (by decide), fun z => absurd z (by decide), fun _ => dr⟩
  · rw [e]; simp only [bs]
    rw [if_pos trivial]
    exact ⟨_, rfl, ⟨fun k hk ek _ => absurd ek (hno k hk), fun _ => rfl⟩, rfl⟩
