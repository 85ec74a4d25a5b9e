/-! what the reference gathers: bounds, signs turned -/
def bds (s : Sy) : List Lk :=
  if s.1 = 0 then [(0, 1 + 2 * s.2.1, -oZ s.2.2.2.1), (1 + 2 * s.2.1, 0, oZ s.2.2.2.1), (0, 2 + 2 * s.2.1, -oZ s.2.2.2.1), (2 + 2 * s.2.1, 0, oZ s.2.2.2.1)]
  else if s.1 = 1 then [(0, 1 + 2 * s.2.1, -oZ s.2.2.2.1), (1 + 2 * s.2.1, 0, oZ s.2.2.2.1), (0, 2 + 2 * s.2.1, -oZ s.2.2.2.2), (2 + 2 * s.2.1, 0, oZ s.2.2.2.2)]
  else if s.1 = 2 then [(0, 2 + 2 * s.2.1, -oZ s.2.2.2.1)]
  else if s.1 = 3 then [(1 + 2 * s.2.1, 0, oZ s.2.2.2.1)]
  else if s.1 = 4 then [(1 + 2 * s.2.1, 2 + 2 * s.2.1, -syMost s), (2 + 2 * s.2.1, 1 + 2 * s.2.1, oZ s.2.2.2.1)]
  else if s.1 = 5 then (match s.2.2.2.1 with
    | none => [(1 + 2 * s.2.2.1, 2 + 2 * s.2.1, 1)]
    | some d => [(2 + 2 * s.2.1, 1 + 2 * s.2.2.1, -syMost s), (1 + 2 * s.2.2.1, 2 + 2 * s.2.1, (d : Int))])
  else [(1 + 2 * s.2.1, 1 + 2 * s.2.2.1, 0), (2 + 2 * s.2.2.1, 2 + 2 * s.2.1, 0)]
def baseB : Nat → List Lk
  | 0 => []
  | h + 1 => baseB h ++ [(1 + 2 * h, 0, 0), (2 + 2 * h, 1 + 2 * h, 0), (0, 2 + 2 * h, -9999)]
theorem baseB_len : ∀ h, (baseB h).length = 3 * h
  | 0 => rfl
  | h + 1 => by simp [baseB, baseB_len h]; omega
theorem bds_len (s : Sy) : (bds s).length ≤ 4 := by
  unfold bds
  split
  · simp
  · split
    · simp
    · split
      · simp
      · split
        · simp
        · split
          · simp
          · split
            · split <;> simp
            · simp
def sayR (so on ot lo hi : Nat → Int32) (p : Nat) (s : Sy) : Prop :=
  so p = nI s.1 ∧ on p = nI s.2.1 ∧ (5 ≤ s.1 → ot p = nI s.2.2.1) ∧ lo p = oI s.2.2.2.1 ∧ hi p = oI s.2.2.2.2
def encB (m : Int32) (be ah mo : Nat → Int32) (E : List Lk) : Prop :=
  m = nI E.length ∧ ∀ i e, E[i]? = some e → ah i = nI e.1 ∧ be i = nI e.2.1 ∧ (mo i).toInt = -e.2.2
theorem encB_add {m : Int32} {be ah mo : Nat → Int32} {E : List Lk} (h : encB m be ah mo E) {u v : Nat} {g : Int32} {z : Int} (hz : g.toInt = -z) (k : Nat) (hk : k = E.length) :
    encB (nI (E.length + 1)) (upd be k (nI v)) (upd ah k (nI u)) (upd mo k g) (E ++ [(u, v, z)]) := by
  subst hk
  refine ⟨by simp, fun i e he => ?_⟩
  by_cases hi : i < E.length
  · rw [List.getElem?_append_left hi] at he
    rw [upd_n (by omega), upd_n (by omega), upd_n (by omega)]
    exact h.2 i e he
  · have hi2 : i = E.length := by
      have := (List.getElem?_eq_some_iff.mp he).1
      simp at this
      omega
    subst hi2
    rw [List.getElem?_append_right (Nat.le_refl _), Nat.sub_self] at he
    cases he
    rw [upd_s, upd_s, upd_s]
    exact ⟨rfl, rfl, hz⟩
theorem addB {m : Int32} {be ah mo : Nat → Int32} {E : List Lk} (h : encB m be ah mo E) (hl : E.length < 400) {pu pv : Int32} {u v : Nat} {g : Int32} {z : Int} (hu : pu = nI u) (hv : pv = nI v) (hz : g.toInt = -z) :
    ∃ q, f_X12_atMost m be ah mo pu pv g = some q ∧ encB q.1 q.2.1 q.2.2.1 q.2.2.2 (E ++ [(u, v, z)]) := by
  subst hu hv
  have hm := h.1
  unfold f_X12_atMost
  have hin : vp_in m 400 := by rw [hm]; exact vp_in_nI hl (by omega)
  rw [gIn_of hin, gIn_of hin, gIn_of hin]
  refine ⟨_, rfl, ?_⟩
  show encB (m + 1) (upd be m.toNatClampNeg (nI v)) (upd ah m.toNatClampNeg (nI u)) (upd mo m.toNatClampNeg g) (E ++ [(u, v, z)])
  rw [hm, nI_1, nI_clamp (by omega)]
  exact encB_add h hz _ rfl
theorem spanB {m : Int32} {be ah mo : Nat → Int32} {E : List Lk} (h : encB m be ah mo E) (hl : E.length + 2 ≤ 400) {pu pv : Int32} {u v : Nat} {gl gg : Int32} {zl zg : Int} (hu : pu = nI u) (hv : pv = nI v) (h1 : (-gl).toInt = -zl) (h2 : gg.toInt = zg) :
    ∃ q, f_X12_span m be ah mo pu pv gl gg = some q ∧ encB q.1 q.2.1 q.2.2.1 q.2.2.2 (E ++ [(u, v, -zg), (v, u, zl)]) := by
  obtain ⟨q1, e1, d1⟩ := addB h (by omega) hu hv (g := gg) (z := -zg) (by rw [h2]; omega)
  obtain ⟨q2, e2, d2⟩ := addB d1 (by simp; omega) hv hu (g := -gl) (z := zl) h1
  unfold f_X12_span
  rw [e1]; simp only [bs]; rw [e2]; simp only [bs]
  exact ⟨_, rfl, by simpa [List.append_assoc] using d2⟩
theorem n1 (w : Nat) : (1 : Int32) + 2 * nI w = nI (1 + 2 * w) := by
  rw [show (2 : Int32) = nI 2 from rfl, show (1 : Int32) = nI 1 from rfl, pk_mul, nI_add]
theorem n2 (w : Nat) : nI (1 + 2 * w) + 1 = nI (2 + 2 * w) := by
  rw [nI_1]; congr 1; omega
theorem nn2 (w : Nat) : (2 : Int32) + 2 * nI w = nI (2 + 2 * w) := by
  rw [show (2 : Int32) = nI 2 from rfl, pk_mul, nI_add]
theorem kne {k j : Nat} (hk : k < 7) (h : k ≠ j) (hj : j < 7) : ¬ nI k = nI j := fun e => h ((nI_eq (by omega) (by omega)).mp e)
theorem say_R {m : Int32} {be ah mo : Nat → Int32} {E : List Lk} (h : encB m be ah mo E) (hl : E.length + 4 ≤ 400) {so on ot lo hi : Nat → Int32} {p Hn : Nat} {s : Sy} (hp : p < 84) (hs' : sOk Hn s) (hc : sayR so on ot lo hi p s) :
    ∃ q, f_X12_say m so on ot lo hi be ah mo (nI p) = some q ∧ encB q.1 q.2.1 q.2.2.1 q.2.2.2 (E ++ bds s) := by
  obtain ⟨c1, c2, c3, c4, c5⟩ := hc
  obtain ⟨k1, k2, k3, k4, k5, k6, k7⟩ := id hs'
  have hin : vp_in (nI p) 84 := vp_in_nI hp (by omega)
  unfold f_X12_say
  simp only [gIn_of hin, nI_clamp (show p < 2 ^ 31 by omega), c1, c2, c4, c5, n1, n2]
  obtain ⟨k, wn, on', a, b⟩ := s
  dsimp only at *
  have h7 : k = 0 ∨ k = 1 ∨ k = 2 ∨ k = 3 ∨ k = 4 ∨ k = 5 ∨ k = 6 := by have : k < 7 := k1; omega
  have z0 : (0 : Int32) = nI 0 := rfl
  rcases h7 with rfl | rfl | rfl | rfl | rfl | rfl | rfl
  · rw [if_pos (by decide)]
    have ha : a.isSome = true := k6 (by decide)
    obtain ⟨z1, z2⟩ := oI_z k4 ha
    obtain ⟨q1, e1, d1⟩ := spanB h (by omega) (u := 0) (v := 1 + 2 * wn) z0 rfl z2 z1
    obtain ⟨q2, e2, d2⟩ := spanB d1 (by simp; omega) (u := 0) (v := 2 + 2 * wn) z0 rfl z2 z1
    rw [e1]; simp only [bs]; rw [e2]; simp only [bs]
    exact ⟨_, rfl, by simpa [bds, List.append_assoc] using d2⟩
  · rw [if_neg (by decide), if_pos (by decide)]
    have ha : a.isSome = true := k6 (by decide)
    have hb : b.isSome = true := k7 rfl
    obtain ⟨z1, z2⟩ := oI_z k4 ha
    obtain ⟨z3, z4⟩ := oI_z k5 hb
    obtain ⟨q1, e1, d1⟩ := spanB h (by omega) (u := 0) (v := 1 + 2 * wn) z0 rfl z2 z1
    obtain ⟨q2, e2, d2⟩ := spanB d1 (by simp; omega) (u := 0) (v := 2 + 2 * wn) z0 rfl z4 z3
    rw [e1]; simp only [bs]; rw [e2]; simp only [bs]
    exact ⟨_, rfl, by simpa [bds, List.append_assoc] using d2⟩
  · rw [if_neg (by decide), if_neg (by decide), if_pos (by decide)]
    have ha : a.isSome = true := k6 (by decide)
    obtain ⟨z1, z2⟩ := oI_z k4 ha
    obtain ⟨q1, e1, d1⟩ := addB h (by omega) (u := 0) (v := 2 + 2 * wn) (z := -oZ a) z0 rfl (by rw [z1]; omega)
    rw [e1]; simp only [bs]
    exact ⟨_, rfl, by simpa [bds, List.append_assoc] using d1⟩
  · rw [if_neg (by decide), if_neg (by decide), if_neg (by decide), if_pos (by decide)]
    have ha : a.isSome = true := k6 (by decide)
    obtain ⟨z1, z2⟩ := oI_z k4 ha
    obtain ⟨q1, e1, d1⟩ := addB h (by omega) (u := 1 + 2 * wn) (v := 0) rfl z0 z2
    rw [e1]; simp only [bs]
    exact ⟨_, rfl, by simpa [bds, List.append_assoc] using d1⟩
  · rw [if_neg (by decide), if_neg (by decide), if_neg (by decide), if_neg (by decide), if_pos (by decide)]
    have ha : a.isSome = true := k6 (by decide)
    obtain ⟨z1, z2⟩ := oI_z k4 ha
    cases b with
    | none =>
      rw [if_pos (show oI none = -1 from rfl)]
      unfold f_X12_say_b215
      obtain ⟨q1, e1, d1⟩ := spanB h (by omega) (u := 1 + 2 * wn) (v := 2 + 2 * wn) rfl rfl z2 z1
      rw [e1]; simp only [bs]
      exact ⟨_, rfl, by simpa [bds, syMost, List.append_assoc] using d1⟩
    | some d =>
      have hne : ¬ oI (some d) = -1 := fun e => by have := (oI_none k5).mp e; cases this
      rw [if_neg hne]
      unfold f_X12_say_b215
      obtain ⟨q1, e1, d1⟩ := spanB h (by omega) (u := 1 + 2 * wn) (v := 2 + 2 * wn) (gg := oI (some d)) (zg := (d : Int)) rfl rfl z2 (nI_z (k5 d rfl))
      rw [e1]; simp only [bs]
      exact ⟨_, rfl, by simpa [bds, syMost, List.append_assoc] using d1⟩
  · rw [if_neg (by decide), if_neg (by decide), if_neg (by decide), if_neg (by decide), if_neg (by decide), if_pos (by decide)]
    have c3' : ot p = nI on' := c3 (by decide)
    simp only [c3', n1]
    cases a with
    | none =>
      rw [if_pos (show oI none = -1 from rfl)]
      obtain ⟨q1, e1, d1⟩ := addB h (by omega) (u := 1 + 2 * on') (v := 2 + 2 * wn) (g := -1) (z := 1) rfl rfl rfl
      rw [e1]; simp only [bs]
      exact ⟨_, rfl, by simpa [bds, List.append_assoc] using d1⟩
    | some d =>
      have hne : ¬ oI (some d) = -1 := fun e => by have := (oI_none k4).mp e; cases this
      obtain ⟨z1, z2⟩ := oI_z k4 rfl
      rw [if_neg hne]
      cases b with
      | none =>
        rw [if_pos (show oI none = -1 from rfl)]
        unfold f_X12_say_b277
        obtain ⟨q1, e1, d1⟩ := spanB h (by omega) (u := 2 + 2 * wn) (v := 1 + 2 * on') rfl rfl z2 z1
        rw [e1]; simp only [bs]
        exact ⟨_, rfl, by simpa [bds, syMost, oZ, List.append_assoc] using d1⟩
      | some d' =>
        have hne2 : ¬ oI (some d') = -1 := fun e => by have := (oI_none k5).mp e; cases this
        rw [if_neg hne2]
        unfold f_X12_say_b277
        obtain ⟨q1, e1, d1⟩ := spanB h (by omega) (u := 2 + 2 * wn) (v := 1 + 2 * on') (gg := oI (some d')) (zg := (d' : Int)) rfl rfl z2 (nI_z (k5 d' rfl))
        rw [e1]; simp only [bs]
        exact ⟨_, rfl, by simpa [bds, syMost, oZ, List.append_assoc] using d1⟩
  · rw [if_neg (by decide), if_neg (by decide), if_neg (by decide), if_neg (by decide), if_neg (by decide), if_neg (by decide)]
    have c3' : ot p = nI on' := c3 (by decide)
    simp only [c3', n1, n2]
    obtain ⟨q1, e1, d1⟩ := addB h (by omega) (u := 1 + 2 * wn) (v := 1 + 2 * on') (g := 0) (z := 0) rfl rfl rfl
    obtain ⟨q2, e2, d2⟩ := addB d1 (by simp; omega) (u := 2 + 2 * on') (v := 2 + 2 * wn) (g := 0) (z := 0) rfl rfl rfl
    rw [e1]; simp only [bs]; rw [e2]; simp only [bs]
    exact ⟨_, rfl, by simpa [bds, List.append_assoc] using d2⟩
