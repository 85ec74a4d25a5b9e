theorem mc {E : List Lk} {e : Lk} {x : Nat → Int} : FS (e :: E) x ↔ x e.1 + e.2.2 ≤ x e.2.1 ∧ FS E x :=
  ⟨fun h => ⟨h e List.mem_cons_self, fun a ha => h a (List.mem_cons_of_mem _ ha)⟩, fun h a ha => (List.mem_cons.mp ha).elim (fun q => by rw [q]; exact h.1) (h.2 a)⟩
theorem mr {E : List Lk} {e : Lk} {N : Nat} : rngE (e :: E) N ↔ (e.1 < N ∧ e.2.1 < N ∧ -9999 ≤ e.2.2 ∧ e.2.2 ≤ 9999) ∧ rngE E N :=
  ⟨fun h => ⟨h e List.mem_cons_self, fun a ha => h a (List.mem_cons_of_mem _ ha)⟩, fun h a ha => (List.mem_cons.mp ha).elim (fun q => by rw [q]; exact h.1) (h.2 a)⟩
theorem oZ_rng {o : Option Nat} (h : ∀ d, o = some d → d ≤ 9999) : 0 ≤ oZ o ∧ oZ o ≤ 9999 := by
  cases o with
  | none => exact ⟨by decide, by decide⟩
  | some d =>
    have := h d rfl
    show (0 : Int) ≤ (d : Int) ∧ (d : Int) ≤ 9999
    exact ⟨by omega, by omega⟩
theorem most_rng {Hn : Nat} {s : Sy} (hs : sOk Hn s) : 0 ≤ syMost s ∧ syMost s ≤ 9999 := by
  obtain ⟨k, w, o, a, b⟩ := s
  cases b with
  | none => exact oZ_rng hs.2.2.2.1
  | some d =>
    have : d ≤ 9999 := hs.2.2.2.2.1 d rfl
    show (0 : Int) ≤ (d : Int) ∧ (d : Int) ≤ 9999
    exact ⟨by omega, by omega⟩
theorem FS_one {Hn : Nat} {s : Sy} (hs : sOk Hn s) {x : Nat → Int} (hFL : x (1 + 2 * s.2.1) ≤ x (2 + 2 * s.2.1)) : FS (bds s) (fun v => -x v) ↔ FS (lks s) x := by
  obtain ⟨k, w, o, a, b⟩ := s
  have h7 : k = 0 ∨ k = 1 ∨ k = 2 ∨ k = 3 ∨ k = 4 ∨ k = 5 ∨ k = 6 := by have : k < 7 := hs.1; omega
  dsimp only at hFL
  rcases h7 with rfl | rfl | rfl | rfl | rfl | rfl | rfl
  · simp only [bds, lks, mc, FS_nil, and_true, if_true]
    try (constructor <;> intro h <;> omega)
  · simp only [bds, lks, mc, FS_nil, and_true, if_true, Nat.one_ne_zero, if_false]
    try (constructor <;> intro h <;> omega)
  · simp [bds, lks, mc, FS_nil]
    try (constructor <;> intro h <;> omega)
  · simp [bds, lks, mc, FS_nil]
    try (constructor <;> intro h <;> omega)
  · simp [bds, lks, mc, FS_nil]
    try (constructor <;> intro h <;> omega)
  · cases a with
    | none =>
      simp [bds, lks, mc, FS_nil]
      try (constructor <;> intro h <;> omega)
    | some d =>
      simp [bds, lks, mc, FS_nil]
      try (constructor <;> intro h <;> omega)
  · simp [bds, lks, mc, FS_nil]
    try (constructor <;> intro h <;> omega)
theorem rng_lks {Hn : Nat} {s : Sy} (hs : sOk Hn s) : rngE (lks s) (1 + 2 * Hn) := by
  have h1 := oZ_rng hs.2.2.2.1
  have h2 := oZ_rng hs.2.2.2.2.1
  have h3 := most_rng hs
  have h4 := hs.2.1
  have h5 := hs.2.2.1
  have h6 := hs.2.2.2.1
  unfold lks
  split
  · simp only [mr]; exact ⟨⟨by omega, by omega, by omega, by omega⟩, ⟨by omega, by omega, by omega, by omega⟩, rng_nil⟩
  · split
    · simp only [mr]; exact ⟨⟨by omega, by omega, by omega, by omega⟩, ⟨by omega, by omega, by omega, by omega⟩, ⟨by omega, by omega, by omega, by omega⟩, ⟨by omega, by omega, by omega, by omega⟩, rng_nil⟩
    · split
      · simp only [mr]; exact ⟨⟨by omega, by omega, by omega, by omega⟩, rng_nil⟩
      · split
        · simp only [mr]; exact ⟨⟨by omega, by omega, by omega, by omega⟩, rng_nil⟩
        · split
          · simp only [mr]; exact ⟨⟨by omega, by omega, by omega, by omega⟩, ⟨by omega, by omega, by omega, by omega⟩, rng_nil⟩
          · split
            · have h8 := h5 (by omega)
              split
              · simp only [mr]; exact ⟨⟨by omega, by omega, by omega, by omega⟩, rng_nil⟩
              · rename_i d hd
                have h9 := h6 d hd
                simp only [mr]; exact ⟨⟨by omega, by omega, by omega, by omega⟩, ⟨by omega, by omega, by omega, by omega⟩, rng_nil⟩
            · have h8 := h5 (by omega)
              simp only [mr]; exact ⟨⟨by omega, by omega, by omega, by omega⟩, ⟨by omega, by omega, by omega, by omega⟩, rng_nil⟩
theorem rng_bds {Hn : Nat} {s : Sy} (hs : sOk Hn s) : rngE (bds s) (1 + 2 * Hn) := by
  have h1 := oZ_rng hs.2.2.2.1
  have h2 := oZ_rng hs.2.2.2.2.1
  have h3 := most_rng hs
  have h4 := hs.2.1
  have h5 := hs.2.2.1
  have h6 := hs.2.2.2.1
  unfold bds
  split
  · simp only [mr]; exact ⟨⟨by omega, by omega, by omega, by omega⟩, ⟨by omega, by omega, by omega, by omega⟩, ⟨by omega, by omega, by omega, by omega⟩, ⟨by omega, by omega, by omega, by omega⟩, rng_nil⟩
  · split
    · simp only [mr]; exact ⟨⟨by omega, by omega, by omega, by omega⟩, ⟨by omega, by omega, by omega, by omega⟩, ⟨by omega, by omega, by omega, by omega⟩, ⟨by omega, by omega, by omega, by omega⟩, rng_nil⟩
    · split
      · simp only [mr]; exact ⟨⟨by omega, by omega, by omega, by omega⟩, rng_nil⟩
      · split
        · simp only [mr]; exact ⟨⟨by omega, by omega, by omega, by omega⟩, rng_nil⟩
        · split
          · simp only [mr]; exact ⟨⟨by omega, by omega, by omega, by omega⟩, ⟨by omega, by omega, by omega, by omega⟩, rng_nil⟩
          · split
            · have h8 := h5 (by omega)
              split
              · simp only [mr]; exact ⟨⟨by omega, by omega, by omega, by omega⟩, rng_nil⟩
              · rename_i d hd
                have h9 := h6 d hd
                simp only [mr]; exact ⟨⟨by omega, by omega, by omega, by omega⟩, ⟨by omega, by omega, by omega, by omega⟩, rng_nil⟩
            · have h8 := h5 (by omega)
              simp only [mr]; exact ⟨⟨by omega, by omega, by omega, by omega⟩, ⟨by omega, by omega, by omega, by omega⟩, rng_nil⟩
/-- all sayings in order -/
def TOk (Hn : Nat) (T : Nat → List Sy) : Prop := ∀ t, t < 6 → (T t).length ≤ 12 ∧ ∀ (k : Nat) (s : Sy), (T t)[k]? = some s → sOk Hn s
def CE (Hn : Nat) (T : Nat → List Sy) (hear : Nat → Bool) (keep : Nat → Nat → Bool) : List Lk := baseK Hn ++ tellK lks T hear keep 6
def BE (Hn : Nat) (T : Nat → List Sy) (hear : Nat → Bool) (keep : Nat → Nat → Bool) : List Lk := baseB Hn ++ tellK bds T hear keep 6
theorem FS_same {Hn : Nat} {T : Nat → List Sy} (hT : TOk Hn T) {hear : Nat → Bool} {keep : Nat → Nat → Bool} {x : Nat → Int} : FS (BE Hn T hear keep) (fun v => -x v) ↔ FS (CE Hn T hear keep) x := by
  unfold BE CE
  rw [FS_app, FS_app, FS_baseB, FS_baseK, FS_tellK, FS_tellK]
  constructor
  · rintro ⟨h1, h2⟩
    exact ⟨h1, fun t k s ht hh hs hp => (FS_one ((hT t ht).2 k s hs) (h1 _ ((hT t ht).2 k s hs).2.1).2.1).mp (h2 t k s ht hh hs hp)⟩
  · rintro ⟨h1, h2⟩
    exact ⟨h1, fun t k s ht hh hs hp => (FS_one ((hT t ht).2 k s hs) (h1 _ ((hT t ht).2 k s hs).2.1).2.1).mpr (h2 t k s ht hh hs hp)⟩
theorem rng_CE {Hn : Nat} {T : Nat → List Sy} (hT : TOk Hn T) {hear : Nat → Bool} {keep : Nat → Nat → Bool} : rngE (CE Hn T hear keep) (1 + 2 * Hn) :=
  rng_app.mpr ⟨rng_baseK Hn _ (Nat.le_refl _), rng_tellK 6 (fun t k s ht hs => rng_lks ((hT t ht).2 k s hs))⟩
theorem rng_BE {Hn : Nat} {T : Nat → List Sy} (hT : TOk Hn T) {hear : Nat → Bool} {keep : Nat → Nat → Bool} : rngE (BE Hn T hear keep) (1 + 2 * Hn) :=
  rng_app.mpr ⟨rng_baseB Hn _ (Nat.le_refl _), rng_tellK 6 (fun t k s ht hs => rng_bds ((hT t ht).2 k s hs))⟩
theorem len_CE {Hn : Nat} (hH : Hn ≤ 20) {T : Nat → List Sy} (hT : TOk Hn T) {hear : Nat → Bool} {keep : Nat → Nat → Bool} : (CE Hn T hear keep).length ≤ 348 := by
  unfold CE
  have h1 := tellK_len lks_len T (fun t ht => (hT t ht).1) hear keep 6 (by omega)
  rw [List.length_append, baseK_len]; omega
theorem len_BE {Hn : Nat} (hH : Hn ≤ 20) {T : Nat → List Sy} (hT : TOk Hn T) {hear : Nat → Bool} {keep : Nat → Nat → Bool} : (BE Hn T hear keep).length ≤ 348 := by
  unfold BE
  have h1 := tellK_len bds_len T (fun t ht => (hT t ht).1) hear keep 6 (by omega)
  rw [List.length_append, baseB_len]; omega
