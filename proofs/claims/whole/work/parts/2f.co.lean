/-! the heart: agreeing, and the least difference of two days, on both sides -/
def isL (E : List Lk) (s v : Nat) (z : Int) : Prop := (∃ x, FS E x ∧ x v - x s = z) ∧ ∀ x, FS E x → z ≤ x v - x s
theorem isL_one {E : List Lk} {s v : Nat} {z z' : Int} (h : isL E s v z) (h' : isL E s v z') : z = z' := by
  obtain ⟨⟨x, hx, e⟩, hl⟩ := h
  obtain ⟨⟨x', hx', e'⟩, hl'⟩ := h'
  have h1 := hl x' hx'
  have h2 := hl' x hx
  omega
theorem conn {Hn : Nat} {x : Nat → Int} (h : FS (baseK Hn) x) (v : Nat) (hv : v < 1 + 2 * Hn) : x 0 ≤ x v ∧ x v ≤ x 0 + 9999 := by
  have h1 := (FS_baseK Hn).mp h
  by_cases h0 : v = 0
  · subst h0; exact ⟨Int.le_refl _, by omega⟩
  · by_cases hp : v % 2 = 1
    · have h2 := h1 (v / 2) (by omega)
      rw [show 1 + 2 * (v / 2) = v by omega] at h2
      exact ⟨h2.1, by omega⟩
    · have h2 := h1 (v / 2 - 1) (by omega)
      rw [show 2 + 2 * (v / 2 - 1) = v by omega] at h2
      exact ⟨by omega, h2.2.2⟩
theorem base_CE {Hn : Nat} {T : Nat → List Sy} {hear : Nat → Bool} {keep : Nat → Nat → Bool} {x : Nat → Int} (h : FS (CE Hn T hear keep) x) : FS (baseK Hn) x := (FS_app.mp h).1
/-- measureFrom over the class's links -/
theorem meas_C {Hn : Nat} (hH : Hn ≤ 20) {T : Nat → List Sy} (hT : TOk Hn T) {hear : Nat → Bool} {keep : Nat → Nat → Bool} {m : Int32} {ts hs gs : Nat → Int32} (he : encL m ts hs gs (CE Hn T hear keep)) (l0 : Nat → Int32) (sc : Nat) (hsc : sc < 1 + 2 * Hn) :
    ∃ q, f_X4_measureFrom (nI (1 + 2 * Hn)) m ts hs gs l0 (nI sc) = some q ∧ (q.1 = 0 ∨ q.1 = 1) ∧ (sc = 0 → (q.1 = 1 ↔ ∃ x, FS (CE Hn T hear keep) x)) ∧
      ((∃ x, FS (CE Hn T hear keep) x) → q.1 = 1 ∧ ∀ v, v < 1 + 2 * Hn → isL (CE Hn T hear keep) sc v (q.2 v).toInt) := by
  have hlen := len_CE hH hT (hear := hear) (keep := keep)
  have hk := encL_ok he (rng_CE hT)
  obtain ⟨q, hq, h1, h2, h3⟩ := measure_from hk hlen (by omega) hsc l0
  have hfe : (∃ x, FS (CE Hn T hear keep) x) → q.1 = 1 ∧ ∀ v, v < 1 + 2 * Hn → isL (CE Hn T hear keep) sc v (q.2 v).toInt := by
    intro hex
    obtain ⟨L, g1, g2, g3, g4⟩ := good_src (ur := unr) (K := 9999) (sc := sc) (N := 1 + 2 * Hn) (tl := tlE (CE Hn T hear keep)) (hd := hdE (CE Hn T hear keep)) (gp := gpE (CE Hn T hear keep)) (n := (CE Hn T hear keep).length) (fun i hi => ⟨(hk i hi).2.2.2.1, (hk i hi).2.2.2.2.1⟩) (by obtain ⟨x, hx⟩ := hex; exact ⟨x, lkF_iff.mpr hx⟩) (fun x hx v hv => by
        have b := base_CE (lkF_iff.mp hx)
        have c1 := conn b v hv
        have c2 := conn b sc hsc
        omega) hsc (by decide)
    obtain ⟨a1, a2⟩ := h3 L g1 g2
    refine ⟨a1, fun v hv => ?_⟩
    rw [a2 v hv]
    obtain ⟨x, hx, e⟩ := g4 v hv
    exact ⟨⟨x, lkF_iff.mp hx, e⟩, fun y hy => g3 y (lkF_iff.mpr hy) v hv⟩
  refine ⟨q, by rw [he.1]; exact hq, h1, fun hs0 => ⟨fun hr => ?_, fun hex => (hfe hex).1⟩, hfe⟩
  -- a fixed point from the origin is a way
  subst hs0
  obtain ⟨p1, p2⟩ := h2 hr
  refine ⟨fun v => (q.2 v).toInt, lkF_iff.mp ?_⟩
  have pe : ∀ e ∈ CE Hn T hear keep, (q.2 e.1).toInt = unr ∨ (q.2 e.1).toInt + e.2.2 ≤ (q.2 e.2.1).toInt := by
    intro e he'
    obtain ⟨i, hi, rfl⟩ := List.getElem_of_mem he'
    have h5 := p2 i hi
    unfold tlE hdE gpE at h5
    rw [getD_of (List.getElem?_eq_getElem hi)] at h5
    exact h5
  have bm : ∀ h, h < Hn → (0, 1 + 2 * h, (0 : Int)) ∈ baseK Hn ∧ (1 + 2 * h, 2 + 2 * h, (0 : Int)) ∈ baseK Hn := by
    have aux : ∀ n h, h < n → (0, 1 + 2 * h, (0 : Int)) ∈ baseK n ∧ (1 + 2 * h, 2 + 2 * h, (0 : Int)) ∈ baseK n := by
      intro n
      induction n with
      | zero => intro h hh; exact absurd hh (Nat.not_lt_zero h)
      | succ n ih =>
        intro h hh
        unfold baseK
        by_cases hn : h < n
        · exact ⟨List.mem_append_left _ (ih h hn).1, List.mem_append_left _ (ih h hn).2⟩
        · obtain rfl : h = n := by omega
          exact ⟨List.mem_append_right _ List.mem_cons_self, List.mem_append_right _ (List.mem_cons_of_mem _ List.mem_cons_self)⟩
    exact aux Hn
  have reach : ∀ v, v < 1 + 2 * Hn → 0 ≤ (q.2 v).toInt := by
    have fst : ∀ h, h < Hn → 0 ≤ (q.2 (1 + 2 * h)).toInt := by
      intro h hh
      rcases pe _ (List.mem_append_left _ (bm h hh).1) with z | z
      · have z : (q.2 0).toInt = unr := z
        unfold unr at z; omega
      · have z : (q.2 0).toInt + 0 ≤ (q.2 (1 + 2 * h)).toInt := z
        omega
    intro v hv
    by_cases h0 : v = 0
    · subst h0; exact p1
    · by_cases hp : v % 2 = 1
      · have := fst (v / 2) (by omega)
        rw [show 1 + 2 * (v / 2) = v by omega] at this
        exact this
      · have f1 := fst (v / 2 - 1) (by omega)
        rcases pe _ (List.mem_append_left _ (bm (v / 2 - 1) (by omega)).2) with z | z
        · have z : (q.2 (1 + 2 * (v / 2 - 1))).toInt = unr := z
          unfold unr at z; omega
        · have z : (q.2 (1 + 2 * (v / 2 - 1))).toInt + 0 ≤ (q.2 (2 + 2 * (v / 2 - 1))).toInt := z
          rw [show 2 + 2 * (v / 2 - 1) = v by omega] at z
          omega
  intro i hi
  rcases p2 i hi with z | z
  · have := reach _ (hk i hi).2.2.2.1
    unfold unr at z; omega
  · exact z
