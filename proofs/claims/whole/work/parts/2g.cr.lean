theorem FS_ng {Hn : Nat} {T : Nat → List Sy} (hT : TOk Hn T) {hear : Nat → Bool} {keep : Nat → Nat → Bool} {U : Nat → Int} : FS (BE Hn T hear keep) U ↔ FS (CE Hn T hear keep) (fun v => -U v) := by
  have h := FS_same hT (hear := hear) (keep := keep) (x := fun v => -U v)
  rw [← h]
  have e : (fun v => - -U v) = U := by funext v; omega
  rw [e]
theorem feas_R {Hn : Nat} {T : Nat → List Sy} (hT : TOk Hn T) {hear : Nat → Bool} {keep : Nat → Nat → Bool} : (∃ U, FS (BE Hn T hear keep) U) ↔ ∃ x, FS (CE Hn T hear keep) x :=
  ⟨fun ⟨U, hU⟩ => ⟨_, (FS_ng hT).mp hU⟩, fun ⟨x, hx⟩ => ⟨_, (FS_same hT).mpr hx⟩⟩
/-- goes over the reference's bounds -/
theorem goes_R {Hn : Nat} (hH : Hn ≤ 20) {T : Nat → List Sy} (hT : TOk Hn T) {hear : Nat → Bool} {keep : Nat → Nat → Bool} {m : Int32} {be ah mo : Nat → Int32} (he : encB m be ah mo (BE Hn T hear keep)) (l0 : Nat → Int32) :
    (∃ q, f_X12_goes (nI Hn) m be ah mo l0 (-1) = some q ∧ (q.1 = 0 ∨ q.1 = 1) ∧ (q.1 = 1 ↔ ∃ x, FS (CE Hn T hear keep) x)) ∧
    ∀ a, a < 1 + 2 * Hn → (∃ x, FS (CE Hn T hear keep) x) → ∃ q, f_X12_goes (nI Hn) m be ah mo l0 (nI a) = some q ∧ q.1 = 1 ∧ ∀ v, v < 1 + 2 * Hn → isL (CE Hn T hear keep) v a (-(q.2 v).toInt) := by
  have hlen := len_BE hH hT (hear := hear) (keep := keep)
  have hk := encB_ok he (rng_BE hT)
  have hkk : ∀ i, i < (BE Hn T hear keep).length → tlE (BE Hn T hear keep) i < 1 + 2 * Hn ∧ hdE (BE Hn T hear keep) i < 1 + 2 * Hn := fun i hi => ⟨(hk i hi).2.2.2.1, (hk i hi).2.2.2.2.1⟩
  refine ⟨?_, ?_⟩
  · obtain ⟨q, hq, h1, h2, h3⟩ := goes_spec hk hlen hH l0 (-1)
    refine ⟨q, by rw [he.1]; exact hq, h1, fun hr => ?_, fun hex => ?_⟩
    · obtain ⟨p1, p2⟩ := h2 hr
      refine (feas_R hT).mp ⟨ng q.2, lkF_iff.mp (fun i hi => ?_)⟩
      rcases p1 i hi with z | z
      · have := p2 _ (hkk i hi).1 (Or.inl rfl)
        unfold urR at z
        omega
      · exact z
    · obtain ⟨L, An, g1, g2, g3, g4⟩ := good_all (ur := urR) hkk (by obtain ⟨U, hU⟩ := (feas_R hT (hear := hear) (keep := keep)).mpr hex; exact ⟨U, lkF_iff.mpr hU⟩) (by omega) (by decide)
      exact (h3 L An g1 (fun v hv => ⟨(g2 v hv).1, Or.inl rfl, (g2 v hv).2⟩) g3 (fun v hv _ => g4 v hv)).1
  · intro a ha hex
    obtain ⟨q, hq, h1, h2, h3⟩ := goes_spec hk hlen hH l0 (nI a)
    have hcon : ∀ U, lkF (BE Hn T hear keep).length (tlE (BE Hn T hear keep)) (hdE (BE Hn T hear keep)) (gpE (BE Hn T hear keep)) U → ∀ v, v < 1 + 2 * Hn → -9999 ≤ U v - U a := by
      intro U hU v hv
      have b := base_CE ((FS_ng hT).mp (lkF_iff.mp hU))
      have c1 := conn b v hv
      have c2 := conn b a ha
      (try dsimp only at c1 c2)
      omega
    obtain ⟨L, g1, g2, g3, g4⟩ := good_src (ur := urR) (K := 9999) hkk (by obtain ⟨U, hU⟩ := (feas_R hT (hear := hear) (keep := keep)).mpr hex; exact ⟨U, lkF_iff.mpr hU⟩) hcon ha (by decide)
    have hne : ∀ v, v < 1 + 2 * Hn → (nI a = -1 ∨ nI v = nI a) → v = a := by
      intro v hv h
      rcases h with h | h
      · have h5 := congrArg Int32.toInt h
        rw [nI_toInt (by omega)] at h5
        have h6 : (-1 : Int32).toInt = -1 := rfl
        omega
      · exact (nI_eq (by omega) (by omega)).mp h
    obtain ⟨a1, a2⟩ := h3 L (fun v => v = a) g1 (fun v hv => by subst hv; exact ⟨ha, Or.inr rfl, g2⟩) ⟨a, rfl⟩ (fun v hv h => by rw [hne v hv h, g2]; exact Int.le_refl _)
    refine ⟨q, by rw [he.1]; exact hq, a1, fun v hv => ?_⟩
    have e1 : -(q.2 v).toInt = L v := a2 v hv
    rw [e1]
    obtain ⟨U, hU, e⟩ := g4 v hv
    refine ⟨⟨fun w => -U w, (FS_ng hT).mp (lkF_iff.mp hU), by show -U a - -U v = L v; omega⟩, fun x hx => ?_⟩
    have := g3 (fun w => -x w) (lkF_iff.mpr ((FS_same hT).mpr hx)) v hv
    (try dsimp only at this)
    omega
