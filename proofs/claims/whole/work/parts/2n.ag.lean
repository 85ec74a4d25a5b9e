theorem agree_C {Hn : Nat} (hH : Hn ≤ 20) {tt : Nat → Nat} {sz : Nat → Int32} {w : Nat → Nat} {ow ot fs sn : Nat → Int32} {T : Nat → List Sy} (hT : TXc tt sz w ow ot fs sn Hn T) (wk wy mn ms : Int32) (ts hs gs l0 lo : Nat → Int32) (u : Int32) (hlo : ∀ k, k < 72 → lo k = 0) (hw : wayI wk wy (Feas Hn T u)) :
    ∃ q, f_X11_agree (nI Hn) tt u wk wy mn ms ts hs gs l0 lo sz w ow ot fs sn = some q ∧ (q.1 = 0 ∨ q.1 = 1) ∧ (q.1 = 1 ↔ Feas Hn T u) ∧ wayI q.2.1 q.2.2.1 (Feas Hn T u) := by
  obtain ⟨q, eq, b1, b2, b3, b4⟩ := hasWay_C hH hT wk wy mn ms ts hs gs l0 lo u hlo hw
  have hw2 : wayI q.2.1 q.2.2.1 (Feas Hn T u) := ⟨Or.inr b3, by rw [b4]; exact b1, fun _ => by rw [b4]; exact b2⟩
  unfold f_X11_agree
  rw [eq]; simp only [bs]
  by_cases hz : q.1 = 0
  · rw [if_pos hz]
    exact ⟨_, rfl, Or.inl rfl, ⟨fun h => absurd h (show ¬ (0 : Int32) = 1 by decide), fun h => absurd (hz.symm.trans (b2.mpr h)) (by decide)⟩, hw2⟩
  · rw [if_neg hz]
    exact ⟨_, rfl, Or.inr rfl, ⟨fun _ => b2.mp (b1.resolve_left hz), fun _ => rfl⟩, hw2⟩
theorem hears_C (u : Int32) (t : Nat) : f_X1_hears u (nI t) = some (if hearI u t then 1 else 0) := by
  unfold f_X1_hears hearI
  by_cases h : ((u >>> (nI t &&& 31)) &&& 1) = 1
  · rw [if_pos h, if_pos (decide_eq_true h)]
  · rw [if_neg h, if_neg (by simp [h])]
