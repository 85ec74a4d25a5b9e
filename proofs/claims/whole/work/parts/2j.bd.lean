theorem has_C {Hn : Nat} (hH : Hn ≤ 20) (p : Int32) : (∃ h, h < Hn ∧ p = nI h ∧ f_X3_has (nI Hn) p = some 1) ∨ ((∀ h, h < Hn → ¬ p = nI h) ∧ f_X3_has (nI Hn) p = some 0) := by
  unfold f_X3_has
  rcases pk_ix p (n := Hn) (by omega) with h | h | ⟨j, hj, rfl⟩
  · exact Or.inr ⟨fun k hk e => by rw [e] at h; exact nI_pos (by omega) h, by rw [if_pos h]⟩
  · refine Or.inr ⟨fun k hk e => by rw [e] at h; exact nI_ge hk (by omega) h, ?_⟩
    split
    · rfl
    · first | rfl | rw [if_pos h]
  · exact Or.inl ⟨j, hj, rfl, by rw [if_neg (nI_pos (by omega)), if_neg (nI_ge hj (by omega))]⟩
theorem has_R {Hn : Nat} (hH : Hn ≤ 20) (p : Int32) : (∃ h, h < Hn ∧ p = nI h ∧ f_X12_isHappening (nI Hn) p = some 1) ∨ ((∀ h, h < Hn → ¬ p = nI h) ∧ f_X12_isHappening (nI Hn) p = some 0) := by
  unfold f_X12_isHappening
  rcases pk_ix p (n := Hn) (by omega) with h | h | ⟨j, hj, rfl⟩
  · exact Or.inr ⟨fun k hk e => by rw [e] at h; exact nI_pos (by omega) h, by rw [if_pos h]⟩
  · refine Or.inr ⟨fun k hk e => by rw [e] at h; exact nI_ge hk (by omega) h, ?_⟩
    split
    · rfl
    · first | rfl | rw [if_pos h]
  · exact Or.inl ⟨j, hj, rfl, by rw [if_neg (nI_pos (by omega)), if_neg (nI_ge hj (by omega))]⟩
/-- the reference's agree: answer, thrown 0, its bounds are those of all that is heard -/
theorem agree_R {Hn : Nat} (hH : Hn ≤ 20) {ma so on ot lo hi : Nat → Int32} {T : Nat → List Sy} (hT : TXr ma so on ot lo hi Hn T) (th mb : Int32) (be ah mo le fr : Nat → Int32) (u : Int32) :
    ∃ q, f_X12_agree th (nI Hn) u mb ma so on ot lo hi be ah mo le fr = some q ∧ (q.1 = 0 ∨ q.1 = 1) ∧ (q.1 = 1 ↔ Feas Hn T u) ∧ q.2.1 = 0 ∧ encB q.2.2.1 q.2.2.2.1 q.2.2.2.2.1 q.2.2.2.2.2.1 (BE Hn T (hearI u) (fun _ _ => true)) := by
  obtain ⟨q0, e0, h0⟩ := hearAll_R le
  obtain ⟨q1, e1, h1, h2, h3⟩ := agreed_R hH hT mb be ah mo q0 fr u
  have hz : ∀ k, k < 72 → q0 k = 0 := fun k hk => h0 k (by omega)
  rw [CE_all (TXr_ok hT) hz] at h2
  rw [BE_all (TXr_ok hT) hz] at h3
  unfold f_X12_agree
  rw [e0]; simp only [bs]; rw [e1]; simp only [bs]
  by_cases hz1 : q1.1 = 0
  · rw [if_pos hz1]
    refine ⟨_, rfl, Or.inl rfl, ⟨fun h => absurd h (show ¬ (0 : Int32) = 1 by decide), fun h => absurd (hz1.symm.trans (h2.mpr h)) (by decide)⟩, rfl, h3⟩
  · rw [if_neg hz1]
    exact ⟨_, rfl, Or.inr rfl, ⟨fun _ => h2.mp (h1.resolve_left hz1), fun _ => rfl⟩, rfl, h3⟩
theorem isL_rng {Hn : Nat} {T : Nat → List Sy} {u : Int32} {s v : Nat} {z : Int} (hs : s < 1 + 2 * Hn) (hv : v < 1 + 2 * Hn) (h : isL (AE Hn T u) s v z) : -9999 ≤ z ∧ z ≤ 9999 := by
  obtain ⟨⟨x, hx, e⟩, -⟩ := h
  have b := base_CE hx
  have c1 := conn b v hv
  have c2 := conn b s hs
  exact ⟨by omega, by omega⟩
/-- what bound(p1, p2) is -/
def bndS (Hn : Nat) (T : Nat → List Sy) (u p1 p2 r : Int32) : Prop :=
  (∀ h, h < Hn → p1 = nI h → Feas Hn T u → (p2 = 0 → isL (AE Hn T u) 0 (1 + 2 * h) r.toInt) ∧ (p2 = 1 → isL (AE Hn T u) (1 + 2 * h) 0 (-r.toInt)) ∧ (p2 = 2 → isL (AE Hn T u) 0 (2 + 2 * h) r.toInt) ∧ (p2 = 3 → isL (AE Hn T u) (2 + 2 * h) 0 (-r.toInt))) ∧
  (((∀ h, h < Hn → ¬ p1 = nI h) ∨ ¬ Feas Hn T u ∨ (¬ p2 = 0 ∧ ¬ p2 = 1 ∧ ¬ p2 = 2 ∧ ¬ p2 = 3)) → r = -1)
theorem bndS_one {Hn : Nat} {T : Nat → List Sy} {u p1 p2 r r' : Int32} (h : bndS Hn T u p1 p2 r) (h' : bndS Hn T u p1 p2 r') : r = r' := by
  by_cases hb : (∀ h, h < Hn → ¬ p1 = nI h) ∨ ¬ Feas Hn T u ∨ (¬ p2 = 0 ∧ ¬ p2 = 1 ∧ ¬ p2 = 2 ∧ ¬ p2 = 3)
  · rw [h.2 hb, h'.2 hb]
  · have h1 : ∃ k, k < Hn ∧ p1 = nI k := Classical.byContradiction (fun z => hb (Or.inl (fun k hk e => z ⟨k, hk, e⟩)))
    have h2 : Feas Hn T u := Classical.byContradiction (fun z => hb (Or.inr (Or.inl z)))
    have h3 : p2 = 0 ∨ p2 = 1 ∨ p2 = 2 ∨ p2 = 3 := Classical.byContradiction (fun z => hb (Or.inr (Or.inr ⟨fun e => z (Or.inl e), fun e => z (Or.inr (Or.inl e)), fun e => z (Or.inr (Or.inr (Or.inl e))), fun e => z (Or.inr (Or.inr (Or.inr e)))⟩)))
    obtain ⟨k, hk, e⟩ := h1
    obtain ⟨a0, a1, a2, a3⟩ := h.1 k hk e h2
    obtain ⟨b0, b1, b2, b3⟩ := h'.1 k hk e h2
    refine i_eq.mpr ?_
    rcases h3 with z | z | z | z
    · exact isL_one (a0 z) (b0 z)
    · have := isL_one (a1 z) (b1 z); omega
    · exact isL_one (a2 z) (b2 z)
    · have := isL_one (a3 z) (b3 z); omega
theorem greatest_C {Hn : Nat} (hH : Hn ≤ 20) {tt : Nat → Nat} {sz : Nat → Int32} {w : Nat → Nat} {ow ot fs sn : Nat → Int32} {T : Nat → List Sy} (hT : TXc tt sz w ow ot fs sn Hn T) (mn ms : Int32) (ts hs gs l0 lo : Nat → Int32) (u : Int32) (hlo : ∀ k, k < 72 → lo k = 0) (hex : Feas Hn T u) {a b : Nat} (ha : a < 1 + 2 * Hn) (hb : b < 1 + 2 * Hn) :
    ∃ q, f_X1_greatest (nI Hn) tt u mn ms ts hs gs l0 lo sz w ow ot fs sn (nI a) (nI b) = some q ∧ isL (AE Hn T u) b a (-q.1.toInt) := by
  have e9 := CE_all (TXc_ok hT) hlo (u := u)
  obtain ⟨q, eq, hq⟩ := least_C hH hT mn ms ts hs gs l0 lo u (by rw [e9]; exact hex) hb ha
  rw [e9] at hq
  have hr := isL_rng hb ha hq
  unfold f_X1_greatest
  rw [eq]
  refine ⟨_, rfl, ?_⟩
  show isL (AE Hn T u) b a (-(-q.1).toInt)
  rw [i_neg (by omega), Int.neg_neg]
  exact hq
