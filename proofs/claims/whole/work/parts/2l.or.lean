/-- what order(p1, p2) is -/
def ordS (Hn : Nat) (T : Nat → List Sy) (u p1 p2 r : Int32) : Prop :=
  (∀ g h, g < Hn → h < Hn → p1 = nI g → p2 = nI h → Feas Hn T u → ∃ z y, isL (AE Hn T u) (2 + 2 * g) (1 + 2 * h) z ∧ isL (AE Hn T u) (1 + 2 * h) (2 + 2 * g) (-y) ∧ ((0 < z ∧ r = 1) ∨ (z ≤ 0 ∧ y ≤ 0 ∧ r = -1) ∨ (z ≤ 0 ∧ 0 < y ∧ r = 0))) ∧
  (((∀ h, h < Hn → ¬ p1 = nI h) ∨ (∀ h, h < Hn → ¬ p2 = nI h) ∨ ¬ Feas Hn T u) → r = -2)
theorem ordS_one {Hn : Nat} {T : Nat → List Sy} {u p1 p2 r r' : Int32} (h : ordS Hn T u p1 p2 r) (h' : ordS Hn T u p1 p2 r') : r = r' := by
  by_cases hb : (∀ h, h < Hn → ¬ p1 = nI h) ∨ (∀ h, h < Hn → ¬ p2 = nI h) ∨ ¬ Feas Hn T u
  · rw [h.2 hb, h'.2 hb]
  · have h1 : ∃ k, k < Hn ∧ p1 = nI k := Classical.byContradiction (fun z => hb (Or.inl (fun k hk e => z ⟨k, hk, e⟩)))
    have h2 : ∃ k, k < Hn ∧ p2 = nI k := Classical.byContradiction (fun z => hb (Or.inr (Or.inl (fun k hk e => z ⟨k, hk, e⟩))))
    have h3 : Feas Hn T u := Classical.byContradiction (fun z => hb (Or.inr (Or.inr z)))
    obtain ⟨g, hg, eg⟩ := h1
    obtain ⟨k, hk, ek⟩ := h2
    obtain ⟨z, y, a1, a2, a3⟩ := h.1 g k hg hk eg ek h3
    obtain ⟨z', y', b1, b2, b3⟩ := h'.1 g k hg hk eg ek h3
    have e1 := isL_one a1 b1
    have e2 := isL_one a2 b2
    rcases a3 with ⟨c1, rfl⟩ | ⟨c1, c2, rfl⟩ | ⟨c1, c2, rfl⟩ <;> rcases b3 with ⟨d1, rfl⟩ | ⟨d1, d2, rfl⟩ | ⟨d1, d2, rfl⟩ <;> first | rfl | (exfalso; omega)
theorem order_C {Hn : Nat} (hH : Hn ≤ 20) {tt : Nat → Nat} {sz : Nat → Int32} {w : Nat → Nat} {ow ot fs sn : Nat → Int32} {T : Nat → List Sy} (hT : TXc tt sz w ow ot fs sn Hn T) (wk wy mn ms : Int32) (ts hs gs l0 lo : Nat → Int32) (u : Int32) (hlo : ∀ k, k < 72 → lo k = 0) (hw : wayI wk wy (Feas Hn T u)) (p1 p2 : Int32) :
    ∃ q, f_X11_order (nI Hn) tt u wk wy mn ms ts hs gs l0 lo sz w ow ot fs sn p1 p2 = some q ∧ ordS Hn T u p1 p2 q.1 ∧ wayI q.2.1 q.2.2.1 (Feas Hn T u) := by
  unfold f_X11_order f_X11_order_b32
  rcases has_C hH p1 with ⟨g, hg, rfl, e⟩ | ⟨hno, e⟩
  · rw [e]; simp only [bs]
    rw [if_neg (show ¬ (1 : Int32) = 0 by decide)]
    rcases has_C hH p2 with ⟨h, hh, rfl, e2⟩ | ⟨hno, e2⟩
    · rw [e2]; simp only [bs]
      rw [if_neg (show ¬ (1 : Int32) = 0 by decide)]
      obtain ⟨q, eq, b1, b2, b3, b4⟩ := hasWay_C hH hT wk wy mn ms ts hs gs l0 lo u hlo hw
      rw [eq]; simp only [bs]
      have hw2 : wayI q.2.1 q.2.2.1 (Feas Hn T u) := ⟨Or.inr b3, by rw [b4]; exact b1, fun _ => by rw [b4]; exact b2⟩
      by_cases hz : q.1 = 0
      · rw [if_pos hz]
        have hnf : ¬ Feas Hn T u := fun hf => absurd (hz.symm.trans (b2.mpr hf)) (by decide)
        exact ⟨_, rfl, ⟨fun _ _ _ _ _ _ hf => absurd hf hnf, fun _ => rfl⟩, hw2⟩
      · rw [if_neg hz]
        have hf : Feas Hn T u := b2.mp (b1.resolve_left hz)
        have e9 := CE_all (TXc_ok hT) hlo (u := u)
        have hex : ∃ x, FS (CE Hn T (hearI u) (keepI lo)) x := by rw [e9]; exact hf
        have hb : ¬ ((∀ k, k < Hn → ¬ nI g = nI k) ∨ (∀ k, k < Hn → ¬ nI h = nI k) ∨ ¬ Feas Hn T u) := fun z => z.elim (fun y => y g hg rfl) (fun y => y.elim (fun x => x h hh rfl) (fun x => x hf))
        have hin : ∀ a b, a < Hn → b < Hn → nI a = nI b → b = a := fun a b ha hb' e' => ((nI_eq (by omega) (by omega)).mp e').symm
        simp only [fo, la, bs]
        obtain ⟨q1, e1, d1⟩ := least_C hH hT q.2.2.2.1 q.2.2.2.2.1 q.2.2.2.2.2.1 q.2.2.2.2.2.2.1 q.2.2.2.2.2.2.2.1 q.2.2.2.2.2.2.2.2 lo u hex (a := 2 + 2 * g) (b := 1 + 2 * h) (by omega) (by omega)
        rw [e9] at d1
        obtain ⟨q2, e3, d2⟩ := greatest_C hH hT q1.2.1 q1.2.2.1 q1.2.2.2.1 q1.2.2.2.2.1 q1.2.2.2.2.2.1 q1.2.2.2.2.2.2 lo u hlo hf (a := 2 + 2 * g) (b := 1 + 2 * h) (by omega) (by omega)
        rw [e1]; simp only [bs]
        by_cases c1 : q1.1 ≤ 0
        · have c1' : q1.1.toInt ≤ 0 := i_le.mp c1
          rw [if_pos c1, e3]; simp only [bs]
          by_cases c2 : 0 < q2.1
          · have c2' : 0 < q2.1.toInt := i_lt.mp c2
            rw [if_pos c2]
            exact ⟨_, rfl, ⟨fun a b ha hb' ea eb _ => by rw [hin g a hg ha ea, hin h b hh hb' eb]; exact ⟨_, _, d1, d2, Or.inr (Or.inr ⟨c1', c2', rfl⟩)⟩, fun z => absurd z hb⟩, hw2⟩
          · have c2' : q2.1.toInt ≤ 0 := Int.not_lt.mp (fun z => c2 (i_lt.mpr z))
            rw [if_neg c2]
            exact ⟨_, rfl, ⟨fun a b ha hb' ea eb _ => by rw [hin g a hg ha ea, hin h b hh hb' eb]; exact ⟨_, _, d1, d2, Or.inr (Or.inl ⟨c1', c2', rfl⟩)⟩, fun z => absurd z hb⟩, hw2⟩
        · have c1' : 0 < q1.1.toInt := Int.not_le.mp (fun z => c1 (i_le.mpr z))
          rw [if_neg c1]
          exact ⟨_, rfl, ⟨fun a b ha hb' ea eb _ => by rw [hin g a hg ha ea, hin h b hh hb' eb]; exact ⟨_, _, d1, d2, Or.inl ⟨c1', rfl⟩⟩, fun z => absurd z hb⟩, hw2⟩
    · rw [e2]; simp only [bs]
      rw [if_pos trivial]
      exact ⟨_, rfl, ⟨fun a b ha hb' ea eb _ => absurd eb (hno b hb'), fun _ => rfl⟩, hw⟩
  · rw [e]; simp only [bs]
    rw [if_pos trivial]
    exact ⟨_, rfl, ⟨fun a b ha hb' ea eb _ => absurd ea (hno a ha), fun _ => rfl⟩, hw⟩
theorem order_R {Hn : Nat} (hH : Hn ≤ 20) {ma so on ot lo hi : Nat → Int32} {T : Nat → List Sy} (hT : TXr ma so on ot lo hi Hn T) (mb : Int32) (be ah mo le fr : Nat → Int32) (u : Int32) (th p1 p2 : Int32) :
    ∃ q, f_X12_order th (nI Hn) u mb ma so on ot lo hi be ah mo le fr p1 p2 = some q ∧ ordS Hn T u p1 p2 q.1 ∧ q.2.1 = 0 := by
  unfold f_X12_order f_X12_order_b28
  rcases has_R hH p1 with ⟨g, hg, rfl, e⟩ | ⟨hno, e⟩
  · rw [e]; simp only [bs]
    rw [if_neg (show ¬ (1 : Int32) = 0 by decide)]
    rcases has_R hH p2 with ⟨h, hh, rfl, e2⟩ | ⟨hno, e2⟩
    · rw [e2]; simp only [bs]
      rw [if_neg (show ¬ (1 : Int32) = 0 by decide)]
      obtain ⟨q, eq, b1, b2, b3, b4⟩ := agree_R hH hT 0 mb be ah mo le fr u
      rw [eq]; simp only [bs]
      by_cases hz : q.1 = 0
      · rw [if_pos hz]
        have hnf : ¬ Feas Hn T u := fun hf => absurd (hz.symm.trans (b2.mpr hf)) (by decide)
        exact ⟨_, rfl, ⟨fun _ _ _ _ _ _ hf => absurd hf hnf, fun _ => rfl⟩, b3⟩
      · rw [if_neg hz]
        have hf : Feas Hn T u := b2.mp (b1.resolve_left hz)
        have hb : ¬ ((∀ k, k < Hn → ¬ nI g = nI k) ∨ (∀ k, k < Hn → ¬ nI h = nI k) ∨ ¬ Feas Hn T u) := fun z => z.elim (fun y => y g hg rfl) (fun y => y.elim (fun x => x h hh rfl) (fun x => x hf))
        have hin : ∀ a b, a < Hn → b < Hn → nI a = nI b → b = a := fun a b ha hb' e' => ((nI_eq (by omega) (by omega)).mp e').symm
        simp only [n1, nn2]
        obtain ⟨q1, e1, d1⟩ := mostOf_R hH (TXr_ok hT) b4 q.2.2.2.2.2.2.2 hf (a := 1 + 2 * h) (b := 2 + 2 * g) (by omega) (by omega)
        obtain ⟨q2, e3, d2⟩ := mostOf_R hH (TXr_ok hT) b4 q1.2 hf (a := 2 + 2 * g) (b := 1 + 2 * h) (by omega) (by omega)
        have hr := isL_rng (T := T) (u := u) (by omega) (by omega) d1
        have en : (-q1.1).toInt = -q1.1.toInt := i_neg (by omega)
        rw [e1]; simp only [bs]
        by_cases c1 : -q1.1 ≤ 0
        · have c1' : -q1.1.toInt ≤ 0 := by rw [← en]; exact i_le.mp c1
          rw [if_pos c1, e3]; simp only [bs]
          by_cases c2 : 0 < q2.1
          · have c2' : 0 < q2.1.toInt := i_lt.mp c2
            rw [if_pos c2]
            exact ⟨_, rfl, ⟨fun a b ha hb' ea eb _ => by rw [hin g a hg ha ea, hin h b hh hb' eb]; exact ⟨_, _, d1, d2, Or.inr (Or.inr ⟨c1', c2', rfl⟩)⟩, fun z => absurd z hb⟩, b3⟩
          · have c2' : q2.1.toInt ≤ 0 := Int.not_lt.mp (fun z => c2 (i_lt.mpr z))
            rw [if_neg c2]
            exact ⟨_, rfl, ⟨fun a b ha hb' ea eb _ => by rw [hin g a hg ha ea, hin h b hh hb' eb]; exact ⟨_, _, d1, d2, Or.inr (Or.inl ⟨c1', c2', rfl⟩)⟩, fun z => absurd z hb⟩, b3⟩
        · have c1' : 0 < -q1.1.toInt := by rw [← en]; exact Int.not_le.mp (fun z => c1 (i_le.mpr z))
          rw [if_neg c1]
          exact ⟨_, rfl, ⟨fun a b ha hb' ea eb _ => by rw [hin g a hg ha ea, hin h b hh hb' eb]; exact ⟨_, _, d1, d2, Or.inl ⟨c1', rfl⟩⟩, fun z => absurd z hb⟩, b3⟩
    · rw [e2]; simp only [bs]
      rw [if_pos trivial]
      exact ⟨_, rfl, ⟨fun a b ha hb' ea eb _ => absurd eb (hno b hb'), fun _ => rfl⟩, rfl⟩
  · rw [e]; simp only [bs]
    rw [if_pos trivial]
    exact ⟨_, rfl, ⟨fun a b ha hb' ea eb _ => absurd ea (hno a ha), fun _ => rfl⟩, rfl⟩
