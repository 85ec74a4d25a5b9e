/-! needless and between: the class's side, and the reference's between -/
theorem needless_C {Hn : Nat} (hH : Hn ≤ 20) {tt : Nat → Nat} {sz : Nat → Int32} {w : Nat → Nat} {ow ot fs sn : Nat → Int32} {T : Nat → List Sy} (hT : TXc tt sz w ow ot fs sn Hn T) (u wk wy mn ms cs : Int32) (ts hs gs l0 ct ch cg lo : Nat → Int32) (hlo : ∀ k, k < 72 → lo k = 0) (hw : wayI wk wy (Feas Hn T u)) (p1 p2 : Int32) :
    ∃ q, f_X11_needless (nI Hn) tt u wk wy mn ms ts hs gs l0 cs ct ch cg lo sz w ow ot fs sn p1 p2 = some q ∧
      (∀ t, t < 6 → p1 = nI t → ∃ r, q = .inl r ∧ ndS Hn T u t p2 r.1 ∧ wayI r.2.1 r.2.2.1 (Feas Hn T u) ∧ ∀ k, k < 72 → r.2.2.2.2.2.2.2.2.2.2.2.2.2 k = 0) ∧
      ((∀ t, t < 6 → ¬ p1 = nI t) → q = .inr (1, wk, wy, mn, ms, ts, hs, gs, l0, cs, ct, ch, cg, lo)) := by
  unfold f_X11_needless
  rcases teller_C p1 with ⟨t, ht, rfl, e⟩ | ⟨hno, e⟩
  · rw [e]; simp only [bs]
    obtain ⟨h1, h2, h3, h4⟩ := hT t ht
    have fin : ∀ r : Int32 × Int32 × Int32 × Int32 × Int32 × (Nat → Int32) × (Nat → Int32) × (Nat → Int32) × (Nat → Int32) × Int32 × (Nat → Int32) × (Nat → Int32) × (Nat → Int32) × (Nat → Int32), ndS Hn T u t p2 r.1 ∧ wayI r.2.1 r.2.2.1 (Feas Hn T u) ∧ (∀ k, k < 72 → r.2.2.2.2.2.2.2.2.2.2.2.2.2 k = 0) →
        (∀ t', t' < 6 → nI t = nI t' → ∃ r', (Sum.inl r : _ ⊕ (Nat × Int32 × Int32 × Int32 × Int32 × (Nat → Int32) × (Nat → Int32) × (Nat → Int32) × (Nat → Int32) × Int32 × (Nat → Int32) × (Nat → Int32) × (Nat → Int32) × (Nat → Int32))) = .inl r' ∧ ndS Hn T u t' p2 r'.1 ∧ wayI r'.2.1 r'.2.2.1 (Feas Hn T u) ∧ ∀ k, k < 72 → r'.2.2.2.2.2.2.2.2.2.2.2.2.2 k = 0) ∧ ((∀ t', t' < 6 → ¬ nI t = nI t') → (Sum.inl r : _ ⊕ (Nat × Int32 × Int32 × Int32 × Int32 × (Nat → Int32) × (Nat → Int32) × (Nat → Int32) × (Nat → Int32) × Int32 × (Nat → Int32) × (Nat → Int32) × (Nat → Int32) × (Nat → Int32))) = .inr (1, wk, wy, mn, ms, ts, hs, gs, l0, cs, ct, ch, cg, lo)) := by
      intro r hr
      refine ⟨fun t' ht' e' => ⟨r, rfl, ?_⟩, fun z => absurd rfl (z t ht)⟩
      obtain rfl : t = t' := (nI_eq (by omega) (by omega)).mp e'
      exact hr
    rw [if_neg (show ¬ (1 : Int32) = 0 by decide), gIn_of (vp_in_nI (show t < 6 by omega) (by omega)), nI_clamp (show t < 2 ^ 31 by omega), gN_of h1]
    unfold f_X8_has
    rw [gN_of h1, h2, hears_C]
    rcases pk_ix p2 (n := (T t).length) (by omega) with z | z | ⟨k, hk, rfl⟩
    · rw [if_pos z]; simp only [bs]; rw [if_pos trivial]
      exact ⟨_, rfl, fin _ ⟨⟨fun k s hk e _ _ _ => absurd z (by rw [e]; exact nI_pos (by omega)), fun _ => rfl⟩, hw, hlo⟩⟩
    · have hbad : ndS Hn T u t p2 (-1) := ⟨fun k s hk e hs _ _ => absurd z (by rw [e]; exact nI_ge (List.getElem?_eq_some_iff.mp hs).1 (by omega)), fun _ => rfl⟩
      by_cases z0 : p2 < 0
      · rw [if_pos z0]; simp only [bs]; rw [if_pos trivial]
        exact ⟨_, rfl, fin _ ⟨hbad, hw, hlo⟩⟩
      · rw [if_neg z0, if_pos z]; simp only [bs]; rw [if_pos trivial]
        exact ⟨_, rfl, fin _ ⟨hbad, hw, hlo⟩⟩
    · rw [if_neg (nI_pos (by omega)), if_neg (nI_ge hk (by omega))]; simp only [bs]
      rw [if_neg (show ¬ (1 : Int32) = 0 by decide)]
      obtain ⟨s, hs'⟩ : ∃ s, (T t)[k]? = some s := ⟨_, List.getElem?_eq_getElem hk⟩
      by_cases hh : hearI u t = true
      · rw [if_pos hh, if_neg (show ¬ (1 : Int32) = 0 by decide)]
        obtain ⟨q, eq, b1, b2, b3, b4⟩ := hasWay_C hH hT wk wy mn ms ts hs gs l0 lo u hlo hw
        have hw2 : wayI q.2.1 q.2.2.1 (Feas Hn T u) := ⟨Or.inr b3, by rw [b4]; exact b1, fun _ => by rw [b4]; exact b2⟩
        rw [eq]; simp only [bs]
        by_cases hz : q.1 = 0
        · rw [if_pos hz]
          have hnf : ¬ Feas Hn T u := fun hf => absurd (hz.symm.trans (b2.mpr hf)) (by decide)
          exact ⟨_, rfl, fin _ ⟨⟨fun k s _ _ _ _ z => absurd z hnf, fun _ => rfl⟩, hw2, hlo⟩⟩
        · rw [if_neg hz]
          have hf : Feas Hn T u := b2.mp (b1.resolve_left hz)
          obtain ⟨r, er, r1, r2, r3⟩ := follows_C hH hT u q.2.2.2.1 q.2.2.2.2.1 cs q.2.2.2.2.2.1 q.2.2.2.2.2.2.1 q.2.2.2.2.2.2.2.1 q.2.2.2.2.2.2.2.2 ct ch cg lo hlo hf ht hs'
          rw [er]; simp only [bs]
          have hinj : ∀ k' s'', k' < 100 → nI k = nI k' → (T t)[k']? = some s'' → k' = k ∧ s'' = s := by
            intro k' s'' h' e he
            obtain rfl : k = k' := (nI_eq (by omega) (by omega)).mp e
            rw [hs'] at he; cases he
            exact ⟨rfl, rfl⟩
          have hbadn : ∀ (x : Int32), (nI k < 0 ∨ nI (T t).length ≤ nI k ∨ ¬ hearI u t = true ∨ ¬ Feas Hn T u) → x = -1 := by
            intro x z
            rcases z with z | z | z | z
            · exact absurd z (nI_pos (by omega))
            · exact absurd z (nI_ge hk (by omega))
            · exact absurd hh z
            · exact absurd hf z
          by_cases hz2 : r.1 = 0
          · rw [if_pos hz2]
            refine ⟨_, rfl, fin _ ⟨⟨fun k' s'' g1 g2 g3 _ _ => ?_, hbadn _⟩, hw2, r3⟩⟩
            obtain ⟨rfl, rfl⟩ := hinj k' s'' g1 g2 g3
            refine ⟨Or.inl rfl, fun z => absurd z (show ¬ (0 : Int32) = 1 by decide), fun z => ?_⟩
            rw [r2.mpr z] at hz2; exact absurd hz2 (by decide)
          · rw [if_neg hz2]
            refine ⟨_, rfl, fin _ ⟨⟨fun k' s'' g1 g2 g3 _ _ => ?_, hbadn _⟩, hw2, r3⟩⟩
            obtain ⟨rfl, rfl⟩ := hinj k' s'' g1 g2 g3
            exact ⟨Or.inr rfl, fun _ => r2.mp (r1.resolve_left hz2), fun _ => rfl⟩
      · rw [if_neg hh, if_pos rfl]
        exact ⟨_, rfl, fin _ ⟨⟨fun k s _ _ _ z _ => absurd z hh, fun _ => rfl⟩, hw, hlo⟩⟩
  · rw [e]; simp only [bs]
    rw [if_pos trivial]
    exact ⟨_, rfl, fun t ht e => absurd e (hno t ht), fun _ => rfl⟩
def btS (Hn : Nat) (T : Nat → List Sy) (u p1 p2 p3 k r : Int32) : Prop :=
  (∀ g h, g < Hn → h < Hn → p1 = nI g → p2 = nI h → Feas Hn T u → k = 0 ∧ (p3 = 0 → isL (AE Hn T u) (2 + 2 * g) (1 + 2 * h) r.toInt) ∧ (¬ p3 = 0 → isL (AE Hn T u) (1 + 2 * h) (2 + 2 * g) (-r.toInt))) ∧
  (((∀ h, h < Hn → ¬ p1 = nI h) ∨ (∀ h, h < Hn → ¬ p2 = nI h) ∨ ¬ Feas Hn T u) → k = 1)
theorem btS_one {Hn : Nat} {T : Nat → List Sy} {u p1 p2 p3 k r k' r' : Int32} (h : btS Hn T u p1 p2 p3 k r) (h' : btS Hn T u p1 p2 p3 k' r') : k = k' ∧ (k = 0 → r = r') := by
  by_cases hb : (∀ h, h < Hn → ¬ p1 = nI h) ∨ (∀ h, h < Hn → ¬ p2 = nI h) ∨ ¬ Feas Hn T u
  · have e1 := h.2 hb
    have e2 := h'.2 hb
    exact ⟨by rw [e1, e2], fun z => by rw [e1] at z; exact absurd z (by decide)⟩
  · have h1 : ∃ g, g < Hn ∧ p1 = nI g := Classical.byContradiction (fun z => hb (Or.inl (fun k hk e => z ⟨k, hk, e⟩)))
    have h2 : ∃ g, g < Hn ∧ p2 = nI g := Classical.byContradiction (fun z => hb (Or.inr (Or.inl (fun k hk e => z ⟨k, hk, e⟩))))
    have hf : Feas Hn T u := Classical.byContradiction (fun z => hb (Or.inr (Or.inr z)))
    obtain ⟨g, hg, eg⟩ := h1
    obtain ⟨j, hj, ej⟩ := h2
    obtain ⟨a1, a2, a3⟩ := h.1 g j hg hj eg ej hf
    obtain ⟨b1, b2, b3⟩ := h'.1 g j hg hj eg ej hf
    refine ⟨by rw [a1, b1], fun _ => i_eq.mpr ?_⟩
    by_cases h0 : p3 = 0
    · exact isL_one (a2 h0) (b2 h0)
    · have := isL_one (a3 h0) (b3 h0); omega
theorem between_C {Hn : Nat} (hH : Hn ≤ 20) {tt : Nat → Nat} {sz : Nat → Int32} {w : Nat → Nat} {ow ot fs sn : Nat → Int32} {T : Nat → List Sy} (hT : TXc tt sz w ow ot fs sn Hn T) (u wk wy mn ms : Int32) (ts hs gs l0 lo : Nat → Int32) (hlo : ∀ k, k < 72 → lo k = 0) (hw : wayI wk wy (Feas Hn T u)) (p1 p2 p3 : Int32) :
    ∃ q, f_X11_between (nI Hn) tt u wk wy mn ms ts hs gs l0 lo sz w ow ot fs sn p1 p2 p3 = some q ∧ btS Hn T u p1 p2 p3 (kOf (fun r => r.1) (fun e => e.1) 0 1 q).1 (kOf (fun r => r.1) (fun e => e.1) 0 1 q).2 ∧
      (match q with | .inl r => wayI r.2.1 r.2.2.1 (Feas Hn T u) | .inr r => r.1 = 2 ∧ wayI r.2.1 r.2.2.1 (Feas Hn T u)) := by
  unfold f_X11_between f_X11_between_b22
  rcases has_C hH p1 with ⟨g, hg, rfl, e⟩ | ⟨hno, e⟩
  · rw [e]; simp only [bs]
    rw [if_neg (show ¬ (1 : Int32) = 0 by decide)]
    rcases has_C hH p2 with ⟨h, hh, rfl, e2⟩ | ⟨hno, e2⟩
    · rw [e2]; simp only [bs]
      rw [if_neg (show ¬ (1 : Int32) = 0 by decide)]
      obtain ⟨q, eq, b1, b2, b3, b4⟩ := hasWay_C hH hT wk wy mn ms ts hs gs l0 lo u hlo hw
      have hw2 : wayI q.2.1 q.2.2.1 (Feas Hn T u) := ⟨Or.inr b3, by rw [b4]; exact b1, fun _ => by rw [b4]; exact b2⟩
      rw [eq]; simp only [bs]
      have inj : ∀ a b : Nat, a < Hn → b < Hn → nI a = nI b → b = a := fun a b ha hb e => ((nI_eq (by omega) (by omega)).mp e).symm
      by_cases hz : q.1 = 0
      · rw [if_pos hz]
        have hnf : ¬ Feas Hn T u := fun hf => absurd (hz.symm.trans (b2.mpr hf)) (by decide)
        exact ⟨_, rfl, ⟨fun g h _ _ _ _ z => absurd z hnf, fun _ => rfl⟩, rfl, hw2⟩
      · rw [if_neg hz]
        have hf : Feas Hn T u := b2.mp (b1.resolve_left hz)
        have nb : ∀ x : Int32, ((∀ j, j < Hn → ¬ nI g = nI j) ∨ (∀ j, j < Hn → ¬ nI h = nI j) ∨ ¬ Feas Hn T u) → x = 1 := by
          intro x z
          rcases z with z | z | z
          · exact absurd rfl (z g hg)
          · exact absurd rfl (z h hh)
          · exact absurd hf z
        simp only [fo, la, bs]
        by_cases h0 : p3 = 0
        · rw [if_pos h0]
          obtain ⟨r, er, dr⟩ := least_C hH hT q.2.2.2.1 q.2.2.2.2.1 q.2.2.2.2.2.1 q.2.2.2.2.2.2.1 q.2.2.2.2.2.2.2.1 q.2.2.2.2.2.2.2.2 lo u (by rw [CE_all (TXc_ok hT) hlo]; exact hf) (a := 2 + 2 * g) (b := 1 + 2 * h) (by omega) (by omega)
          rw [CE_all (TXc_ok hT) hlo] at dr
          rw [er]; simp only [bs]
          refine ⟨_, rfl, ⟨fun g' h' hg' hh' eg eh _ => ?_, nb _⟩, hw2⟩
          rw [inj g g' hg hg' eg, inj h h' hh hh' eh]
          exact ⟨rfl, fun _ => dr, fun z => absurd h0 z⟩
        · rw [if_neg h0]
          obtain ⟨r, er, dr⟩ := greatest_C hH hT q.2.2.2.1 q.2.2.2.2.1 q.2.2.2.2.2.1 q.2.2.2.2.2.2.1 q.2.2.2.2.2.2.2.1 q.2.2.2.2.2.2.2.2 lo u hlo hf (a := 2 + 2 * g) (b := 1 + 2 * h) (by omega) (by omega)
          rw [er]; simp only [bs]
          refine ⟨_, rfl, ⟨fun g' h' hg' hh' eg eh _ => ?_, nb _⟩, hw2⟩
          rw [inj g g' hg hg' eg, inj h h' hh hh' eh]
          exact ⟨rfl, fun z => absurd z h0, fun _ => dr⟩
    · rw [e2]; simp only [bs]
      rw [if_pos trivial]
      exact ⟨_, rfl, ⟨fun g h _ hh _ e _ => absurd e (hno h hh), fun _ => rfl⟩, rfl, hw⟩
  · rw [e]; simp only [bs]
    rw [if_pos trivial]
    exact ⟨_, rfl, ⟨fun g h hg _ e _ _ => absurd e (hno g hg), fun _ => rfl⟩, rfl, hw⟩
theorem between_R {Hn : Nat} (hH : Hn ≤ 20) {ma so on ot lo hi : Nat → Int32} {T : Nat → List Sy} (hT : TXr ma so on ot lo hi Hn T) (th u mb : Int32) (be ah mo le fr : Nat → Int32) (p1 p2 p3 : Int32) :
    ∃ q, f_X12_between th (nI Hn) u mb ma so on ot lo hi be ah mo le fr p1 p2 p3 = some q ∧ btS Hn T u p1 p2 p3 q.2.1 q.1 := by
  unfold f_X12_between f_X12_between_b23 f_X12_refuse
  simp only [bs]
  rcases has_R hH p1 with ⟨g, hg, rfl, e⟩ | ⟨hno, e⟩
  · rw [e]; simp only [bs]
    rw [if_neg (show ¬ (1 : Int32) = 0 by decide)]
    rcases has_R hH p2 with ⟨h, hh, rfl, e2⟩ | ⟨hno, e2⟩
    · rw [e2]; simp only [bs]
      rw [if_neg (show ¬ (1 : Int32) = 0 by decide)]
      obtain ⟨q, eq, b1, b2, b3, b4⟩ := agree_R hH hT th mb be ah mo le fr u
      rw [eq]; simp only [bs]
      have inj : ∀ a b : Nat, a < Hn → b < Hn → nI a = nI b → b = a := fun a b ha hb e => ((nI_eq (by omega) (by omega)).mp e).symm
      by_cases hz : q.1 = 0
      · rw [if_pos hz]
        have hnf : ¬ Feas Hn T u := fun hf => absurd (hz.symm.trans (b2.mpr hf)) (by decide)
        exact ⟨_, rfl, fun g h _ _ _ _ z => absurd z hnf, fun _ => rfl⟩
      · rw [if_neg hz, n1, nn2]
        have hf : Feas Hn T u := b2.mp (b1.resolve_left hz)
        have nb : ∀ x : Int32, ((∀ j, j < Hn → ¬ nI g = nI j) ∨ (∀ j, j < Hn → ¬ nI h = nI j) ∨ ¬ Feas Hn T u) → x = 1 := by
          intro x z
          rcases z with z | z | z
          · exact absurd rfl (z g hg)
          · exact absurd rfl (z h hh)
          · exact absurd hf z
        by_cases h0 : p3 = 0
        · rw [if_pos h0]
          obtain ⟨r, er, dr⟩ := mostOf_R hH (TXr_ok hT) b4 q.2.2.2.2.2.2.2 hf (a := 1 + 2 * h) (b := 2 + 2 * g) (by omega) (by omega)
          rw [er]; simp only [bs]
          have hr := isL_rng (by omega) (by omega) dr
          refine ⟨_, rfl, fun g' h' hg' hh' eg eh _ => ?_, nb _⟩
          rw [inj g g' hg hg' eg, inj h h' hh hh' eh]
          refine ⟨rfl, fun _ => ?_, fun z => absurd h0 z⟩
          show isL _ _ _ (-r.1).toInt
          rw [i_neg (by omega)]; exact dr
        · rw [if_neg h0]
          obtain ⟨r, er, dr⟩ := mostOf_R hH (TXr_ok hT) b4 q.2.2.2.2.2.2.2 hf (a := 2 + 2 * g) (b := 1 + 2 * h) (by omega) (by omega)
          rw [er]; simp only [bs]
          refine ⟨_, rfl, fun g' h' hg' hh' eg eh _ => ?_, nb _⟩
          rw [inj g g' hg hg' eg, inj h h' hh hh' eh]
          exact ⟨rfl, fun z => absurd z h0, fun _ => dr⟩
    · rw [e2]; simp only [bs]
      rw [if_pos trivial]
      exact ⟨_, rfl, fun g h _ hh _ e _ => absurd e (hno h hh), fun _ => rfl⟩
  · rw [e]; simp only [bs]
    rw [if_pos trivial]
    exact ⟨_, rfl, fun g h hg _ e _ _ => absurd e (hno g hg), fun _ => rfl⟩
