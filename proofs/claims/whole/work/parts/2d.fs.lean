/-! what holds: the class's links and the reference's bounds say the same -/
def FS (E : List Lk) (x : Nat → Int) : Prop := ∀ e ∈ E, x e.1 + e.2.2 ≤ x e.2.1
def tlE (E : List Lk) (i : Nat) : Nat := (E.getD i (0, 0, 0)).1
def hdE (E : List Lk) (i : Nat) : Nat := (E.getD i (0, 0, 0)).2.1
def gpE (E : List Lk) (i : Nat) : Int := (E.getD i (0, 0, 0)).2.2
theorem getD_of {E : List Lk} {i : Nat} {e : Lk} (h : E[i]? = some e) : E.getD i (0, 0, 0) = e := by
  rw [List.getD_eq_getElem?_getD, h]; rfl
theorem lkF_iff {E : List Lk} {x : Nat → Int} : lkF E.length (tlE E) (hdE E) (gpE E) x ↔ FS E x := by
  constructor
  · intro h e he
    obtain ⟨i, hi, rfl⟩ := List.getElem_of_mem he
    have h1 := h i hi
    unfold tlE hdE gpE at h1
    rw [getD_of (List.getElem?_eq_getElem hi)] at h1
    exact h1
  · intro h i hi
    have h1 := h E[i] (List.getElem_mem hi)
    unfold tlE hdE gpE
    rw [getD_of (List.getElem?_eq_getElem hi)]
    exact h1
def rngE (E : List Lk) (N : Nat) : Prop := ∀ e ∈ E, e.1 < N ∧ e.2.1 < N ∧ -9999 ≤ e.2.2 ∧ e.2.2 ≤ 9999
theorem encL_ok {m : Int32} {ts hs gs : Nat → Int32} {E : List Lk} {N : Nat} (h : encL m ts hs gs E) (hr : rngE E N) : lkOk E.length ts hs gs (tlE E) (hdE E) (gpE E) N := by
  intro i hi
  have h1 := h.2 i E[i] (List.getElem?_eq_getElem hi)
  have h2 := hr E[i] (List.getElem_mem hi)
  unfold tlE hdE gpE
  rw [getD_of (List.getElem?_eq_getElem hi)]
  exact ⟨h1.1, h1.2.1, h1.2.2, h2⟩
theorem encB_ok {m : Int32} {be ah mo : Nat → Int32} {E : List Lk} {N : Nat} (h : encB m be ah mo E) (hr : rngE E N) : bdOk E.length ah be mo (tlE E) (hdE E) (gpE E) N := by
  intro i hi
  have h1 := h.2 i E[i] (List.getElem?_eq_getElem hi)
  have h2 := hr E[i] (List.getElem_mem hi)
  unfold tlE hdE gpE
  rw [getD_of (List.getElem?_eq_getElem hi)]
  exact ⟨h1.1, h1.2.1, h1.2.2, h2⟩
theorem FS_app {A B : List Lk} {x : Nat → Int} : FS (A ++ B) x ↔ FS A x ∧ FS B x :=
  ⟨fun h => ⟨fun e he => h e (List.mem_append_left _ he), fun e he => h e (List.mem_append_right _ he)⟩, fun h e he => (List.mem_append.mp he).elim (h.1 e) (h.2 e)⟩
theorem rng_app {A B : List Lk} {N : Nat} : rngE (A ++ B) N ↔ rngE A N ∧ rngE B N :=
  ⟨fun h => ⟨fun e he => h e (List.mem_append_left _ he), fun e he => h e (List.mem_append_right _ he)⟩, fun h e he => (List.mem_append.mp he).elim (h.1 e) (h.2 e)⟩
theorem FS_nil {x : Nat → Int} : FS [] x := fun e he => by cases he
theorem rng_nil {N : Nat} : rngE [] N := fun e he => by cases he
theorem FS_saysK {L : Sy → List Lk} {T : List Sy} {keep : Nat → Bool} {x : Nat → Int} : ∀ n, FS (saysK L T keep n) x ↔ ∀ k s, k < n → T[k]? = some s → keep k = true → FS (L s) x
  | 0 => ⟨fun _ k s h => absurd h (Nat.not_lt_zero k), fun _ => FS_nil⟩
  | n + 1 => by
    unfold saysK
    rw [FS_app, FS_saysK n]
    constructor
    · rintro ⟨h1, h2⟩ k s hk hs hp
      by_cases h : k < n
      · exact h1 k s h hs hp
      · obtain rfl : k = n := by omega
        rw [hs] at h2
        dsimp only at h2
        rw [if_pos hp] at h2
        exact h2
    · intro h
      refine ⟨fun k s hk => h k s (by omega), ?_⟩
      split
      · rename_i s hs
        split
        · rename_i hp
          exact h n s (by omega) hs hp
        · exact FS_nil
      · exact FS_nil
theorem rng_saysK {L : Sy → List Lk} {T : List Sy} {keep : Nat → Bool} {N : Nat} (h : ∀ (k : Nat) (s : Sy), T[k]? = some s → rngE (L s) N) : ∀ n, rngE (saysK L T keep n) N
  | 0 => rng_nil
  | n + 1 => by
    unfold saysK
    refine rng_app.mpr ⟨rng_saysK h n, ?_⟩
    split
    · rename_i s hs
      split
      · exact h n s hs
      · exact rng_nil
    · exact rng_nil
theorem FS_tellK {L : Sy → List Lk} {T : Nat → List Sy} {hear : Nat → Bool} {keep : Nat → Nat → Bool} {x : Nat → Int} : ∀ n, FS (tellK L T hear keep n) x ↔ ∀ t k s, t < n → hear t = true → (T t)[k]? = some s → keep t k = true → FS (L s) x
  | 0 => ⟨fun _ t k s h => absurd h (Nat.not_lt_zero t), fun _ => FS_nil⟩
  | n + 1 => by
    unfold tellK
    rw [FS_app, FS_tellK n]
    constructor
    · rintro ⟨h1, h2⟩ t k s ht hh hs hp
      by_cases h : t < n
      · exact h1 t k s h hh hs hp
      · obtain rfl : t = n := by omega
        rw [if_pos hh] at h2
        exact (FS_saysK _).mp h2 k s ((List.getElem?_eq_some_iff.mp hs).1) hs hp
    · intro h
      refine ⟨fun t k s ht => h t k s (by omega), ?_⟩
      split
      · rename_i hh
        exact (FS_saysK _).mpr (fun k s hk hs hp => h n k s (by omega) hh hs hp)
      · exact FS_nil
theorem rng_tellK {L : Sy → List Lk} {T : Nat → List Sy} {hear : Nat → Bool} {keep : Nat → Nat → Bool} {N : Nat} : ∀ n, (∀ (t k : Nat) (s : Sy), t < n → (T t)[k]? = some s → rngE (L s) N) → rngE (tellK L T hear keep n) N
  | 0, _ => rng_nil
  | n + 1, h => by
    unfold tellK
    refine rng_app.mpr ⟨rng_tellK n (fun t k s ht => h t k s (by omega)), ?_⟩
    split
    · exact rng_saysK (fun k s hs => h n k s (by omega) hs) _
    · exact rng_nil
theorem FS_baseK {x : Nat → Int} : ∀ n, FS (baseK n) x ↔ ∀ h, h < n → x 0 ≤ x (1 + 2 * h) ∧ x (1 + 2 * h) ≤ x (2 + 2 * h) ∧ x (2 + 2 * h) ≤ x 0 + 9999
  | 0 => ⟨fun _ h hh => absurd hh (Nat.not_lt_zero h), fun _ => FS_nil⟩
  | n + 1 => by
    unfold baseK
    rw [FS_app, FS_baseK n]
    simp only [FS, List.forall_mem_cons]
    constructor
    · rintro ⟨h1, h2, h3, h4, -⟩ h hh
      by_cases q : h < n
      · exact h1 h q
      · obtain rfl : h = n := by omega
        (try dsimp only at h2 h3 h4)
        exact ⟨by omega, by omega, by omega⟩
    · intro h
      have h0 := h n (by omega)
      exact ⟨fun k hk => h k (by omega), by show x 0 + 0 ≤ _; omega, by show x _ + 0 ≤ _; omega, by show x _ + -9999 ≤ _; omega, fun e he => by cases he⟩
theorem FS_baseB {x : Nat → Int} : ∀ n, FS (baseB n) (fun v => -x v) ↔ ∀ h, h < n → x 0 ≤ x (1 + 2 * h) ∧ x (1 + 2 * h) ≤ x (2 + 2 * h) ∧ x (2 + 2 * h) ≤ x 0 + 9999
  | 0 => ⟨fun _ h hh => absurd hh (Nat.not_lt_zero h), fun _ => FS_nil⟩
  | n + 1 => by
    unfold baseB
    rw [FS_app, FS_baseB n]
    simp only [FS, List.forall_mem_cons]
    constructor
    · rintro ⟨h1, h2, h3, h4, -⟩ h hh
      by_cases q : h < n
      · exact h1 h q
      · obtain rfl : h = n := by omega
        (try dsimp only at h2 h3 h4)
        exact ⟨by omega, by omega, by omega⟩
    · intro h
      have h0 := h n (by omega)
      exact ⟨fun k hk => h k (by omega), by show -x _ + 0 ≤ -x 0; omega, by show -x _ + 0 ≤ -x _; omega, by show -x 0 + -9999 ≤ -x _; omega, fun e he => by cases he⟩
theorem rng_baseK : ∀ n, ∀ N, 1 + 2 * n ≤ N → rngE (baseK n) N
  | 0, _, _ => rng_nil
  | n + 1, N, h => by
    unfold baseK
    refine rng_app.mpr ⟨rng_baseK n N (by omega), ?_⟩
    simp only [rngE, List.forall_mem_cons]
    exact ⟨⟨by omega, by omega, by omega, by omega⟩, ⟨by omega, by omega, by omega, by omega⟩, ⟨by omega, by omega, by omega, by omega⟩, fun e he => by cases he⟩
theorem rng_baseB : ∀ n, ∀ N, 1 + 2 * n ≤ N → rngE (baseB n) N
  | 0, _, _ => rng_nil
  | n + 1, N, h => by
    unfold baseB
    refine rng_app.mpr ⟨rng_baseB n N (by omega), ?_⟩
    simp only [rngE, List.forall_mem_cons]
    exact ⟨⟨by omega, by omega, by omega, by omega⟩, ⟨by omega, by omega, by omega, by omega⟩, ⟨by omega, by omega, by omega, by omega⟩, fun e he => by cases he⟩
