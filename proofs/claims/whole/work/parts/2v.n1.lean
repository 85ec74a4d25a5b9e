/-! the claims of one saying -/
theorem add19 {m : Int32} {ts hs gs : Nat → Int32} {E : List Lk} (h : encL m ts hs gs E) (hl : E.length < 4) {pu pv : Int32} {u v : Nat} {g : Int32} {z : Int} (hu : pu = nI u) (hv : pv = nI v) (hz : g.toInt = z) :
    ∃ q, f_X2_add19 m ts hs gs pu pv g = some q ∧ encL q.1 q.2.1 q.2.2.1 q.2.2.2 (E ++ [(u, v, z)]) := by
  subst hu hv
  have hm := h.1
  unfold f_X2_add19
  have hin : vp_in m 4 := by rw [hm]; exact vp_in_nI hl (by omega)
  have hc : ¬ (4 : Int32) ≤ m := by rw [hm]; exact nI_ge (b := 4) hl (by omega)
  rw [if_neg hc, gIn_of hin, gIn_of hin, gIn_of hin]
  refine ⟨_, rfl, ?_⟩
  show encL (m + 1) (upd ts m.toNatClampNeg (nI u)) (upd hs m.toNatClampNeg (nI v)) (upd gs m.toNatClampNeg g) (E ++ [(u, v, z)])
  rw [hm, nI_1, nI_clamp (by omega)]
  exact enc_add h hz _ rfl
theorem put19 {m : Int32} {ts hs gs : Nat → Int32} {E : List Lk} (h : encL m ts hs gs E) (hl : E.length + 4 ≤ 4) {w : Nat → Nat} {ow ot fs sn : Nat → Int32} {p Hn : Nat} {s : Sy} (hp : p < 84) (hs' : sOk Hn s) (hc : sayC w ow ot fs sn p s) :
    ∃ q, f_X6_putInto19 m ts hs gs w ow ot fs sn p = some q ∧ encL q.1 q.2.1 q.2.2.1 q.2.2.2 (E ++ lks s) := by
  obtain ⟨c1, c2, c3, c4, c5⟩ := hc
  obtain ⟨k1, k2, k3, k4, k5, k6, k7⟩ := id hs'
  unfold f_X6_putInto19
  have hk13 : s.1 < 13 := by omega
  simp only [gN_of hp, c2, fo, la, bs, c1, gN_of hk13, ord13 s.1 hk13, gIn_of (vp_in_nI hk13 (by omega)), nI_clamp (show s.1 < 2 ^ 31 by omega), sw7 s.1 k1, c4, c5]
  obtain ⟨k, wn, on, a, b⟩ := s
  dsimp only at *
  have h7 : k = 0 ∨ k = 1 ∨ k = 2 ∨ k = 3 ∨ k = 4 ∨ k = 5 ∨ k = 6 := by have : k < 7 := k1; omega
  rcases h7 with rfl | rfl | rfl | rfl | rfl | rfl | rfl
  · rw [if_pos (by decide)]
    have ha : a.isSome = true := k6 (by decide)
    obtain ⟨z1, z2⟩ := oI_z k4 ha
    obtain ⟨q1, e1, d1⟩ := add19 h (by omega) (u := 0) (v := 1 + 2 * wn) (rfl : (0 : Int32) = nI 0) rfl z1
    obtain ⟨q2, e2, d2⟩ := add19 d1 (by simp; omega) (u := 2 + 2 * wn) (v := 0) rfl (rfl : (0 : Int32) = nI 0) z2
    rw [e1]; simp only [bs]; rw [e2]; simp only [bs]
    exact ⟨_, rfl, by simpa [lks, List.append_assoc] using d2⟩
  · rw [if_neg (by decide), if_pos (by decide)]
    have ha : a.isSome = true := k6 (by decide)
    have hb : b.isSome = true := k7 rfl
    obtain ⟨z1, z2⟩ := oI_z k4 ha
    obtain ⟨z3, z4⟩ := oI_z k5 hb
    obtain ⟨q1, e1, d1⟩ := add19 h (by omega) (u := 0) (v := 1 + 2 * wn) (rfl : (0 : Int32) = nI 0) rfl z1
    obtain ⟨q2, e2, d2⟩ := add19 d1 (by simp; omega) (u := 1 + 2 * wn) (v := 0) rfl (rfl : (0 : Int32) = nI 0) z2
    obtain ⟨q3, e3, d3⟩ := add19 d2 (by simp; omega) (u := 0) (v := 2 + 2 * wn) (rfl : (0 : Int32) = nI 0) rfl z3
    obtain ⟨q4, e4, d4⟩ := add19 d3 (by simp; omega) (u := 2 + 2 * wn) (v := 0) rfl (rfl : (0 : Int32) = nI 0) z4
    rw [e1]; simp only [bs]; rw [e2]; simp only [bs]; rw [e3]; simp only [bs]; rw [e4]; simp only [bs]
    exact ⟨_, rfl, by simpa [lks, List.append_assoc] using d4⟩
  · rw [if_neg (by decide), if_neg (by decide), if_pos (by decide)]
    have ha : a.isSome = true := k6 (by decide)
    obtain ⟨z1, z2⟩ := oI_z k4 ha
    obtain ⟨q1, e1, d1⟩ := add19 h (by omega) (u := 2 + 2 * wn) (v := 0) rfl (rfl : (0 : Int32) = nI 0) z2
    rw [e1]; simp only [bs]
    exact ⟨_, rfl, by simpa [lks, List.append_assoc] using d1⟩
  · rw [if_neg (by decide), if_neg (by decide), if_neg (by decide), if_pos (by decide)]
    have ha : a.isSome = true := k6 (by decide)
    obtain ⟨z1, z2⟩ := oI_z k4 ha
    obtain ⟨q1, e1, d1⟩ := add19 h (by omega) (u := 0) (v := 1 + 2 * wn) (rfl : (0 : Int32) = nI 0) rfl z1
    rw [e1]; simp only [bs]
    exact ⟨_, rfl, by simpa [lks, List.append_assoc] using d1⟩
  · rw [if_neg (by decide), if_neg (by decide), if_neg (by decide), if_neg (by decide), if_pos (by decide)]
    have ha : a.isSome = true := k6 (by decide)
    obtain ⟨z1, z2⟩ := oI_z k4 ha
    obtain ⟨r, er, zr⟩ := most_C hp hs' ha c4 c5
    obtain ⟨q1, e1, d1⟩ := add19 h (by omega) (u := 1 + 2 * wn) (v := 2 + 2 * wn) rfl rfl z1
    obtain ⟨q2, e2, d2⟩ := add19 d1 (by simp; omega) (u := 2 + 2 * wn) (v := 1 + 2 * wn) rfl rfl zr
    rw [e1]; simp only [bs]; rw [er]; simp only [bs]; rw [e2]; simp only [bs]
    exact ⟨_, rfl, by simpa [lks, List.append_assoc] using d2⟩
  · rw [if_neg (by decide), if_neg (by decide), if_neg (by decide), if_neg (by decide), if_neg (by decide), if_pos (by decide)]
    have c3' : ot p = nI on := c3 (by decide)
    simp only [c3', fo, bs]
    cases a with
    | none =>
      rw [if_pos (show oI none = -1 from rfl)]
      unfold f_X6_putInto19_b213
      obtain ⟨q1, e1, d1⟩ := add19 h (by omega) (u := 2 + 2 * wn) (v := 1 + 2 * on) (g := 1) (z := 1) rfl rfl rfl
      rw [e1]; simp only [bs, gN_of hp, c4]
      rw [if_pos (show oI none = -1 from rfl)]
      exact ⟨_, rfl, by simpa [lks, List.append_assoc] using d1⟩
    | some d =>
      have hne : ¬ oI (some d) = -1 := fun e => by have := (oI_none k4).mp e; cases this
      rw [if_neg hne]
      unfold f_X6_putInto19_b213
      obtain ⟨r, er, zr⟩ := most_C hp hs' rfl c4 c5
      obtain ⟨q1, e1, d1⟩ := add19 h (by omega) (u := 2 + 2 * wn) (v := 1 + 2 * on) (g := oI (some d)) (z := (d : Int)) rfl rfl (nI_z (k4 d rfl))
      obtain ⟨q2, e2, d2⟩ := add19 d1 (by simp; omega) (u := 1 + 2 * on) (v := 2 + 2 * wn) rfl rfl zr
      rw [e1]; simp only [bs, gN_of hp, c4]
      rw [if_neg hne]
      simp only [c3', fo, bs]
      rw [er]; simp only [bs]; rw [e2]; simp only [bs]
      exact ⟨_, rfl, by simpa [lks, List.append_assoc] using d2⟩
  · rw [if_neg (by decide), if_neg (by decide), if_neg (by decide), if_neg (by decide), if_neg (by decide), if_neg (by decide), if_pos (by decide)]
    have c3' : ot p = nI on := c3 (by decide)
    simp only [c3', fo, la, bs]
    obtain ⟨q1, e1, d1⟩ := add19 h (by omega) (u := 1 + 2 * on) (v := 1 + 2 * wn) (g := 0) (z := 0) rfl rfl rfl
    obtain ⟨q2, e2, d2⟩ := add19 d1 (by simp; omega) (u := 2 + 2 * wn) (v := 2 + 2 * on) (g := 0) (z := 0) rfl rfl rfl
    rw [e1]; simp only [bs]; rw [e2]; simp only [bs]
    exact ⟨_, rfl, by simpa [lks, List.append_assoc] using d2⟩
