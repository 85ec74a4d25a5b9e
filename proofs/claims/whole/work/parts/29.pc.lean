/-! sayings: kind (0 on, 1 from, 2 by, 3 since, 4 lasts, 5 before, 6 while), own, other, first, second; what they put as links (class) -/
abbrev Sy : Type := Nat × Nat × Nat × Option Nat × Option Nat
def oI (o : Option Nat) : Int32 := match o with
  | none => -1
  | some d => nI d
def oZ (o : Option Nat) : Int := match o with
  | none => 0
  | some d => d
abbrev Lk : Type := Nat × Nat × Int
def syMost (s : Sy) : Int := match s.2.2.2.2 with
  | none => oZ s.2.2.2.1
  | some d => d
def lks (s : Sy) : List Lk :=
  if s.1 = 0 then [(0, 1 + 2 * s.2.1, oZ s.2.2.2.1), (2 + 2 * s.2.1, 0, -oZ s.2.2.2.1)]
  else if s.1 = 1 then [(0, 1 + 2 * s.2.1, oZ s.2.2.2.1), (1 + 2 * s.2.1, 0, -oZ s.2.2.2.1), (0, 2 + 2 * s.2.1, oZ s.2.2.2.2), (2 + 2 * s.2.1, 0, -oZ s.2.2.2.2)]
  else if s.1 = 2 then [(2 + 2 * s.2.1, 0, -oZ s.2.2.2.1)]
  else if s.1 = 3 then [(0, 1 + 2 * s.2.1, oZ s.2.2.2.1)]
  else if s.1 = 4 then [(1 + 2 * s.2.1, 2 + 2 * s.2.1, oZ s.2.2.2.1), (2 + 2 * s.2.1, 1 + 2 * s.2.1, -syMost s)]
  else if s.1 = 5 then (match s.2.2.2.1 with
    | none => [(2 + 2 * s.2.1, 1 + 2 * s.2.2.1, 1)]
    | some d => [(2 + 2 * s.2.1, 1 + 2 * s.2.2.1, (d : Int)), (1 + 2 * s.2.2.1, 2 + 2 * s.2.1, -syMost s)])
  else [(1 + 2 * s.2.2.1, 1 + 2 * s.2.1, 0), (2 + 2 * s.2.1, 2 + 2 * s.2.2.1, 0)]
/-- a saying as the texts have them -/
def sOk (Hn : Nat) (s : Sy) : Prop :=
  s.1 < 7 ∧ s.2.1 < Hn ∧ (5 ≤ s.1 → s.2.2.1 < Hn) ∧ (∀ d, s.2.2.2.1 = some d → d ≤ 9999) ∧ (∀ d, s.2.2.2.2 = some d → d ≤ 9999) ∧
  (s.1 < 5 → s.2.2.2.1.isSome = true) ∧ (s.1 = 1 → s.2.2.2.2.isSome = true)
/-- as the class's pool holds it at p -/
def sayC (w : Nat → Nat) (ow ot fs sn : Nat → Int32) (p : Nat) (s : Sy) : Prop :=
  w p = s.1 ∧ ow p = nI s.2.1 ∧ (5 ≤ s.1 → ot p = nI s.2.2.1) ∧ fs p = oI s.2.2.2.1 ∧ sn p = oI s.2.2.2.2
def encL (m : Int32) (ts hs gs : Nat → Int32) (E : List Lk) : Prop :=
  m = nI E.length ∧ ∀ i e, E[i]? = some e → ts i = nI e.1 ∧ hs i = nI e.2.1 ∧ (gs i).toInt = e.2.2
theorem enc_add {m : Int32} {ts hs gs : Nat → Int32} {E : List Lk} (h : encL m ts hs gs E) {u v : Nat} {g : Int32} {z : Int} (hz : g.toInt = z) (k : Nat) (hk : k = E.length) :
    encL (nI (E.length + 1)) (upd ts k (nI u)) (upd hs k (nI v)) (upd gs k g) (E ++ [(u, v, z)]) := by
  subst hk
  refine ⟨by simp, fun i e he => ?_⟩
  by_cases hi : i < E.length
  · rw [List.getElem?_append_left hi] at he
    rw [upd_n (by omega), upd_n (by omega), upd_n (by omega)]
    exact h.2 i e he
  · have hi2 : i = E.length := by
      have := (List.getElem?_eq_some_iff.mp he).1
      simp at this
      omega
    subst hi2
    rw [List.getElem?_append_right (Nat.le_refl _), Nat.sub_self] at he
    cases he
    rw [upd_s, upd_s, upd_s]
    exact ⟨rfl, rfl, hz⟩
theorem add14 {m : Int32} {ts hs gs : Nat → Int32} {E : List Lk} (h : encL m ts hs gs E) (hl : E.length < 348) {pu pv : Int32} {u v : Nat} {g : Int32} {z : Int} (hu : pu = nI u) (hv : pv = nI v) (hz : g.toInt = z) :
    ∃ q, f_X2_add14 m ts hs gs pu pv g = some q ∧ encL q.1 q.2.1 q.2.2.1 q.2.2.2 (E ++ [(u, v, z)]) := by
  subst hu hv
  have hm := h.1
  unfold f_X2_add14
  have hin : vp_in m 348 := by rw [hm]; exact vp_in_nI hl (by omega)
  have hc : ¬ (348 : Int32) ≤ m := by rw [hm]; exact nI_ge (b := 348) hl (by omega)
  rw [if_neg hc, gIn_of hin, gIn_of hin, gIn_of hin]
  refine ⟨_, rfl, ?_⟩
  show encL (m + 1) (upd ts m.toNatClampNeg (nI u)) (upd hs m.toNatClampNeg (nI v)) (upd gs m.toNatClampNeg g) (E ++ [(u, v, z)])
  rw [hm, nI_1, nI_clamp (by omega)]
  exact enc_add h hz _ rfl
theorem fo (w : Nat) : f_X4_firstOf (nI w) = some (nI (1 + 2 * w)) := by
  unfold f_X4_firstOf
  rw [show (2 : Int32) = nI 2 from rfl, show (1 : Int32) = nI 1 from rfl, pk_mul, nI_add]
theorem la (w : Nat) : f_X4_lastOf (nI w) = some (nI (2 + 2 * w)) := by
  unfold f_X4_lastOf
  rw [show (2 : Int32) = nI 2 from rfl, pk_mul, nI_add]
theorem nI_z {d : Nat} (h : d ≤ 9999) : (nI d).toInt = (d : Int) := nI_toInt (by omega)
theorem nI_nz {d : Nat} (h : d ≤ 9999) : (-nI d).toInt = -(d : Int) := sb_negT (by omega)
theorem oI_none {o : Option Nat} (h : ∀ d, o = some d → d ≤ 9999) : oI o = -1 ↔ o = none := by
  cases o with
  | none => exact ⟨fun _ => rfl, fun _ => rfl⟩
  | some d =>
    refine ⟨fun e => ?_, fun e => by cases e⟩
    have h1 := congrArg Int32.toInt e
    have h2 : (oI (some d)).toInt = (d : Int) := nI_z (h d rfl)
    rw [h2] at h1
    have h3 : (-1 : Int32).toInt = -1 := rfl
    omega
theorem oI_z {o : Option Nat} (h : ∀ d, o = some d → d ≤ 9999) (hs : o.isSome = true) : (oI o).toInt = oZ o ∧ (-oI o).toInt = -oZ o := by
  cases o with
  | none => cases hs
  | some d => exact ⟨nI_z (h d rfl), nI_nz (h d rfl)⟩
theorem ord13 : ∀ k, k < 13 → f_Jx29ce0_ordinal_8abf5 k = some (nI k) := by decide
theorem sw7 : ∀ k, k < 7 → swM k = nI (k + 1) := by decide
theorem most_C {fs sn : Nat → Int32} {p Hn : Nat} {s : Sy} (hp : p < 84) (hs : sOk Hn s) (h1 : s.2.2.2.1.isSome = true) (h3 : fs p = oI s.2.2.2.1) (h4 : sn p = oI s.2.2.2.2) : ∃ r, f_X6_most fs sn p = some r ∧ (-r).toInt = -syMost s := by
  unfold f_X6_most
  simp only [gN_of hp]
  rw [h4]
  obtain ⟨k, w, o, a, b⟩ := s
  cases b with
  | none =>
    rw [if_pos (show oI (k, w, o, a, (none : Option Nat)).2.2.2.2 = -1 from rfl)]
    exact ⟨_, rfl, by rw [h3]; exact (oI_z hs.2.2.2.1 h1).2⟩
  | some d =>
    rw [if_neg (fun e => by have := (oI_none hs.2.2.2.2.1).mp e; cases this)]
    exact ⟨_, rfl, nI_nz (hs.2.2.2.2.1 d rfl)⟩

theorem put14 {m : Int32} {ts hs gs : Nat → Int32} {E : List Lk} (h : encL m ts hs gs E) (hl : E.length + 4 ≤ 348) {w : Nat → Nat} {ow ot fs sn : Nat → Int32} {p Hn : Nat} {s : Sy} (hp : p < 84) (hs' : sOk Hn s) (hc : sayC w ow ot fs sn p s) :
    ∃ q, f_X6_putInto14 m ts hs gs w ow ot fs sn p = some q ∧ encL q.1 q.2.1 q.2.2.1 q.2.2.2 (E ++ lks s) := by
  obtain ⟨c1, c2, c3, c4, c5⟩ := hc
  obtain ⟨k1, k2, k3, k4, k5, k6, k7⟩ := id hs'
  unfold f_X6_putInto14
  have hk13 : s.1 < 13 := by omega
  simp only [gN_of hp, c2, fo, la, bs, c1, gN_of hk13, ord13 s.1 hk13, gIn_of (vp_in_nI hk13 (by omega)), nI_clamp (show s.1 < 2 ^ 31 by omega), sw7 s.1 k1, c4, c5]
  obtain ⟨k, wn, on, a, b⟩ := s
  dsimp only at *
  have h7 : k = 0 ∨ k = 1 ∨ k = 2 ∨ k = 3 ∨ k = 4 ∨ k = 5 ∨ k = 6 := by have : k < 7 := k1; omega
  rcases h7 with rfl | rfl | rfl | rfl | rfl | rfl | rfl
  · rw [if_pos (by decide)]
    have ha : a.isSome = true := k6 (by decide)
    obtain ⟨z1, z2⟩ := oI_z k4 ha
    obtain ⟨q1, e1, d1⟩ := add14 h (by omega) (u := 0) (v := 1 + 2 * wn) (rfl : (0 : Int32) = nI 0) rfl z1
    obtain ⟨q2, e2, d2⟩ := add14 d1 (by simp; omega) (u := 2 + 2 * wn) (v := 0) rfl (rfl : (0 : Int32) = nI 0) z2
    rw [e1]; simp only [bs]; rw [e2]; simp only [bs]
    exact ⟨_, rfl, by simpa [lks, List.append_assoc] using d2⟩
  · rw [if_neg (by decide), if_pos (by decide)]
    have ha : a.isSome = true := k6 (by decide)
    have hb : b.isSome = true := k7 rfl
    obtain ⟨z1, z2⟩ := oI_z k4 ha
    obtain ⟨z3, z4⟩ := oI_z k5 hb
    obtain ⟨q1, e1, d1⟩ := add14 h (by omega) (u := 0) (v := 1 + 2 * wn) (rfl : (0 : Int32) = nI 0) rfl z1
    obtain ⟨q2, e2, d2⟩ := add14 d1 (by simp; omega) (u := 1 + 2 * wn) (v := 0) rfl (rfl : (0 : Int32) = nI 0) z2
    obtain ⟨q3, e3, d3⟩ := add14 d2 (by simp; omega) (u := 0) (v := 2 + 2 * wn) (rfl : (0 : Int32) = nI 0) rfl z3
    obtain ⟨q4, e4, d4⟩ := add14 d3 (by simp; omega) (u := 2 + 2 * wn) (v := 0) rfl (rfl : (0 : Int32) = nI 0) z4
    rw [e1]; simp only [bs]; rw [e2]; simp only [bs]; rw [e3]; simp only [bs]; rw [e4]; simp only [bs]
    exact ⟨_, rfl, by simpa [lks, List.append_assoc] using d4⟩
  · rw [if_neg (by decide), if_neg (by decide), if_pos (by decide)]
    have ha : a.isSome = true := k6 (by decide)
    obtain ⟨z1, z2⟩ := oI_z k4 ha
    obtain ⟨q1, e1, d1⟩ := add14 h (by omega) (u := 2 + 2 * wn) (v := 0) rfl (rfl : (0 : Int32) = nI 0) z2
    rw [e1]; simp only [bs]
    exact ⟨_, rfl, by simpa [lks, List.append_assoc] using d1⟩
  · rw [if_neg (by decide), if_neg (by decide), if_neg (by decide), if_pos (by decide)]
    have ha : a.isSome = true := k6 (by decide)
    obtain ⟨z1, z2⟩ := oI_z k4 ha
    obtain ⟨q1, e1, d1⟩ := add14 h (by omega) (u := 0) (v := 1 + 2 * wn) (rfl : (0 : Int32) = nI 0) rfl z1
    rw [e1]; simp only [bs]
    exact ⟨_, rfl, by simpa [lks, List.append_assoc] using d1⟩
  · rw [if_neg (by decide), if_neg (by decide), if_neg (by decide), if_neg (by decide), if_pos (by decide)]
    have ha : a.isSome = true := k6 (by decide)
    obtain ⟨z1, z2⟩ := oI_z k4 ha
    obtain ⟨r, er, zr⟩ := most_C hp hs' ha c4 c5
    obtain ⟨q1, e1, d1⟩ := add14 h (by omega) (u := 1 + 2 * wn) (v := 2 + 2 * wn) rfl rfl z1
    obtain ⟨q2, e2, d2⟩ := add14 d1 (by simp; omega) (u := 2 + 2 * wn) (v := 1 + 2 * wn) rfl rfl zr
    rw [e1]; simp only [bs]; rw [er]; simp only [bs]; rw [e2]; simp only [bs]
    exact ⟨_, rfl, by simpa [lks, List.append_assoc] using d2⟩
  · rw [if_neg (by decide), if_neg (by decide), if_neg (by decide), if_neg (by decide), if_neg (by decide), if_pos (by decide)]
    have c3' : ot p = nI on := c3 (by decide)
    simp only [c3', fo, bs]
    cases a with
    | none =>
      rw [if_pos (show oI none = -1 from rfl)]
      unfold f_X6_putInto14_b213
      obtain ⟨q1, e1, d1⟩ := add14 h (by omega) (u := 2 + 2 * wn) (v := 1 + 2 * on) (g := 1) (z := 1) rfl rfl rfl
      rw [e1]; simp only [bs, gN_of hp, c4]
      rw [if_pos (show oI none = -1 from rfl)]
      exact ⟨_, rfl, by simpa [lks, List.append_assoc] using d1⟩
    | some d =>
      have hne : ¬ oI (some d) = -1 := fun e => by have := (oI_none k4).mp e; cases this
      rw [if_neg hne]
      unfold f_X6_putInto14_b213
      obtain ⟨r, er, zr⟩ := most_C hp hs' rfl c4 c5
      obtain ⟨q1, e1, d1⟩ := add14 h (by omega) (u := 2 + 2 * wn) (v := 1 + 2 * on) (g := oI (some d)) (z := (d : Int)) rfl rfl (nI_z (k4 d rfl))
      obtain ⟨q2, e2, d2⟩ := add14 d1 (by simp; omega) (u := 1 + 2 * on) (v := 2 + 2 * wn) rfl rfl zr
      rw [e1]; simp only [bs, gN_of hp, c4]
      rw [if_neg hne]
      simp only [c3', fo, bs]
      rw [er]; simp only [bs]; rw [e2]; simp only [bs]
      exact ⟨_, rfl, by simpa [lks, List.append_assoc] using d2⟩
  · rw [if_neg (by decide), if_neg (by decide), if_neg (by decide), if_neg (by decide), if_neg (by decide), if_neg (by decide), if_pos (by decide)]
    have c3' : ot p = nI on := c3 (by decide)
    simp only [c3', fo, la, bs]
    obtain ⟨q1, e1, d1⟩ := add14 h (by omega) (u := 1 + 2 * on) (v := 1 + 2 * wn) (g := 0) (z := 0) rfl rfl rfl
    obtain ⟨q2, e2, d2⟩ := add14 d1 (by simp; omega) (u := 2 + 2 * wn) (v := 2 + 2 * on) (g := 0) (z := 0) rfl rfl rfl
    rw [e1]; simp only [bs]; rw [e2]; simp only [bs]
    exact ⟨_, rfl, by simpa [lks, List.append_assoc] using d2⟩
