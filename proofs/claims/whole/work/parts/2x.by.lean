/-! bytes on the tape: 0 .. 255; the class holds them as signed -/
def bI (v : Nat) : Int32 := if v < 128 then nI v else nI v - 256
theorem bI_toInt {v : Nat} (h : v < 256) : (bI v).toInt = if v < 128 then (v : Int) else (v : Int) - 256 := by
  unfold bI
  split
  · exact nI_toInt (by omega)
  · rw [i_sub (by rw [nI_toInt (by omega)]; show -2147483648 ≤ (v : Int) - 256; omega) (by rw [nI_toInt (by omega)]; show (v : Int) - 256 < 2147483648; omega), nI_toInt (by omega)]
    rfl
def blk (v : Nat) : Bool := decide (v = 32 ∨ v = 10)
def ltr (v : Nat) : Bool := decide (97 ≤ v ∧ v ≤ 122)
def dig (v : Nat) : Bool := decide (48 ≤ v ∧ v ≤ 57)
def aln (v : Nat) : Bool := ltr v || dig v
def ob (b : Bool) : Int32 := if b = true then 1 else 0
theorem ob_1 : ob true = 1 := rfl
theorem ob_0 : ob false = 0 := rfl
theorem ob_z (b : Bool) : ob b = 0 ↔ b = false := by cases b <;> decide
theorem ob_01 (b : Bool) : ob b = 0 ∨ ob b = 1 := by cases b <;> simp [ob]
def BY (a : Nat → Int32) (n : Nat) (B : Nat → Nat) : Prop := ∀ i, i < n → B i < 256 ∧ a i = bI (B i)
def BT (a : Nat → Int32) (n : Nat) (B : Nat → Nat) : Prop := ∀ i, i < n → B i < 256 ∧ a i = nI (B i)
theorem bI_eq {v c : Nat} (h : v < 256) (hc : c < 128) : bI v = nI c ↔ v = c := by
  rw [i_eq, bI_toInt h, nI_toInt (by omega)]
  split <;> omega
theorem bI_lt {v c : Nat} (h : v < 256) (hc : c < 128) : bI v < nI c ↔ (v < c ∨ 128 ≤ v) := by
  rw [i_lt, bI_toInt h, nI_toInt (by omega)]
  split <;> omega
theorem bI_gt {v c : Nat} (h : v < 256) (hc : c < 128) : nI c < bI v ↔ (c < v ∧ v < 128) := by
  rw [i_lt, bI_toInt h, nI_toInt (by omega)]
  split <;> omega
theorem blank_C {a : Nat → Int32} {p v : Nat} (hp : p < 440) (hv : v < 256) (ha : a p = bI v) : f_X7_isBlank a (nI p) = some (ob (blk v)) := by
  unfold f_X7_isBlank blk ob
  rw [gIn_of (vp_in_nI hp (by omega)), nI_clamp (by omega), ha, gIn_of (vp_in_nI hp (by omega))]
  rw [show (32 : Int32) = nI 32 from rfl, show (10 : Int32) = nI 10 from rfl]
  simp only [decide_eq_true_eq]
  by_cases h1 : v = 32
  · rw [if_pos ((bI_eq hv (c := 32) (by omega)).mpr h1), if_pos (Or.inl h1)]
  · rw [if_neg (fun z => h1 ((bI_eq hv (c := 32) (by omega)).mp z))]
    by_cases h2 : v = 10
    · rw [if_pos ((bI_eq hv (c := 10) (by omega)).mpr h2), if_pos (Or.inr h2)]
    · rw [if_neg (fun z => h2 ((bI_eq hv (c := 10) (by omega)).mp z)), if_neg (by omega)]
theorem letter_C {a : Nat → Int32} {p v : Nat} (hp : p < 440) (hv : v < 256) (ha : a p = bI v) : f_X7_isLetter a (nI p) = some (ob (ltr v)) := by
  unfold f_X7_isLetter ltr ob
  rw [gIn_of (vp_in_nI hp (by omega)), nI_clamp (by omega), ha, gIn_of (vp_in_nI hp (by omega))]
  rw [show (97 : Int32) = nI 97 from rfl, show (122 : Int32) = nI 122 from rfl]
  simp only [decide_eq_true_eq]
  by_cases h1 : v < 97 ∨ 128 ≤ v
  · rw [if_pos ((bI_lt hv (c := 97) (by omega)).mpr h1), if_neg (by omega)]
  · rw [if_neg (fun z => h1 ((bI_lt hv (c := 97) (by omega)).mp z))]
    by_cases h2 : 122 < v ∧ v < 128
    · rw [if_pos ((bI_gt hv (c := 122) (by omega)).mpr h2), if_neg (by omega)]
    · rw [if_neg (fun z => h2 ((bI_gt hv (c := 122) (by omega)).mp z)), if_pos (by omega)]
theorem digit_C {a : Nat → Int32} {p v : Nat} (hp : p < 440) (hv : v < 256) (ha : a p = bI v) : f_X7_isDigit a (nI p) = some (ob (dig v)) := by
  unfold f_X7_isDigit dig ob
  rw [gIn_of (vp_in_nI hp (by omega)), nI_clamp (by omega), ha, gIn_of (vp_in_nI hp (by omega))]
  rw [show (48 : Int32) = nI 48 from rfl, show (57 : Int32) = nI 57 from rfl]
  simp only [decide_eq_true_eq]
  by_cases h1 : v < 48 ∨ 128 ≤ v
  · rw [if_pos ((bI_lt hv (c := 48) (by omega)).mpr h1), if_neg (by omega)]
  · rw [if_neg (fun z => h1 ((bI_lt hv (c := 48) (by omega)).mp z))]
    by_cases h2 : 57 < v ∧ v < 128
    · rw [if_pos ((bI_gt hv (c := 57) (by omega)).mpr h2), if_neg (by omega)]
    · rw [if_neg (fun z => h2 ((bI_gt hv (c := 57) (by omega)).mp z)), if_pos (by omega)]
theorem letter_R {v : Nat} (hv : v < 256) : f_X12_isLetter (nI v) = some (ob (ltr v)) := by
  unfold f_X12_isLetter ltr ob
  rw [show (97 : Int32) = nI 97 from rfl, show (122 : Int32) = nI 122 from rfl]
  simp only [decide_eq_true_eq]
  by_cases h1 : v < 97
  · rw [if_pos (nI_lt (b := 97) h1 (by omega)), if_neg (by omega)]
  · rw [if_neg (nI_nlt (b := 97) (by omega) (by omega))]
    by_cases h2 : 122 < v
    · rw [if_pos (nI_lt (a := 122) h2 (by omega)), if_neg (by omega)]
    · rw [if_neg (nI_nlt (a := 122) (by omega) (by omega)), if_pos (by omega)]
theorem digit_R {v : Nat} (hv : v < 256) : f_X12_isDigit (nI v) = some (ob (dig v)) := by
  unfold f_X12_isDigit dig ob
  rw [show (48 : Int32) = nI 48 from rfl, show (57 : Int32) = nI 57 from rfl]
  simp only [decide_eq_true_eq]
  by_cases h1 : v < 48
  · rw [if_pos (nI_lt (b := 48) h1 (by omega)), if_neg (by omega)]
  · rw [if_neg (nI_nlt (b := 48) (by omega) (by omega))]
    by_cases h2 : 57 < v
    · rw [if_pos (nI_lt (a := 57) h2 (by omega)), if_neg (by omega)]
    · rw [if_neg (nI_nlt (a := 57) (by omega) (by omega)), if_pos (by omega)]
/-! tokens: where they begin, how long they are -/
def isSk (B : Nat → Nat) (n p s : Nat) : Prop := p ≤ s ∧ s ≤ n ∧ (∀ j, p ≤ j → j < s → blk (B j) = true) ∧ (s < n → blk (B s) = false)
theorem isSk_one {B : Nat → Nat} {n p s s' : Nat} (h : isSk B n p s) (h' : isSk B n p s') : s = s' := by
  obtain ⟨a1, a2, a3, a4⟩ := h
  obtain ⟨b1, b2, b3, b4⟩ := h'
  rcases Nat.lt_trichotomy s s' with z | z | z
  · have := a4 (by omega); rw [b3 s a1 z] at this; exact absurd this (by decide)
  · exact z
  · have := b4 (by omega); rw [a3 s' b1 z] at this; exact absurd this (by decide)
/-- a run of letters and digits -/
def isRn (B : Nat → Nat) (n s l : Nat) : Prop := s + l ≤ n ∧ (∀ j, j < l → aln (B (s + j)) = true) ∧ (s + l < n → aln (B (s + l)) = false)
theorem isRn_one {B : Nat → Nat} {n s l l' : Nat} (h : isRn B n s l) (h' : isRn B n s l') : l = l' := by
  obtain ⟨a1, a2, a3⟩ := h
  obtain ⟨b1, b2, b3⟩ := h'
  rcases Nat.lt_trichotomy l l' with z | z | z
  · have := a3 (by omega); rw [b2 l z] at this; exact absurd this (by decide)
  · exact z
  · have := b3 (by omega); rw [a2 l' z] at this; exact absurd this (by decide)
def bts (B : Nat → Nat) (s l : Nat) : List Nat := (List.range l).map (fun k => B (s + k))
theorem bts_len (B : Nat → Nat) (s l : Nat) : (bts B s l).length = l := by simp [bts]
theorem bts_get {B : Nat → Nat} {s l k : Nat} (h : k < l) : (bts B s l)[k]? = some (B (s + k)) := by simp [bts, h]
theorem bts_suc (B : Nat → Nat) (s l : Nat) : bts B s (l + 1) = bts B s l ++ [B (s + l)] := by simp [bts, List.range_succ]
theorem bts_ext {B : Nat → Nat} {s l : Nat} {L : List Nat} (hl : L.length = l) (h : ∀ k, k < l → L[k]? = some (B (s + k))) : bts B s l = L := by
  refine List.ext_getElem? (fun k => ?_)
  by_cases hk : k < l
  · rw [bts_get hk, h k hk]
  · rw [List.getElem?_eq_none (by rw [bts_len]; omega), List.getElem?_eq_none (by omega)]
/-- the words that have a meaning -/
def kws : Nat → List Nat
  | 0 => [111, 110]
  | 1 => [102, 114, 111, 109]
  | 2 => [98, 121]
  | 3 => [115, 105, 110, 99, 101]
  | 4 => [108, 97, 115, 116, 115]
  | 5 => [98, 101, 102, 111, 114, 101]
  | 6 => [119, 104, 105, 108, 101]
  | 7 => [116, 111]
  | _ => []
def kwO (l : List Nat) : Nat := if l = kws 0 then 0 else if l = kws 1 then 1 else if l = kws 2 then 2 else if l = kws 3 then 3 else if l = kws 4 then 4 else if l = kws 5 then 5 else if l = kws 6 then 6 else if l = kws 7 then 7 else 8
def tyOf (l : List Nat) : Nat := if l = [59] then 10 else if l.all dig = true ∧ l.length ≤ 4 then 9 else if l.all ltr = true ∧ l.length ≤ 8 then kwO l else 12
theorem kwO_le (l : List Nat) : kwO l ≤ 8 := by
  unfold kwO
  repeat' split
  all_goals omega
theorem ty_lt (l : List Nat) : tyOf l < 13 := by
  unfold tyOf
  have := kwO_le l
  repeat' split
  all_goals omega
theorem all_iff {p : Nat → Bool} {B : Nat → Nat} {s l : Nat} : (bts B s l).all p = true ↔ ∀ k, k < l → p (B (s + k)) = true := by
  simp [bts, List.all_eq_true]
theorem length_C {a : Nat → Int32} {B : Nat → Nat} {n s : Nat} (hn : n ≤ 440) (hB : BY a n B) (hs : s < n) : ∃ r, isRn B n s r ∧ f_X10_lengthAt (nI n) a (nI s) = some (nI (if r = 0 then 1 else r)) := by
  obtain ⟨t, ht, r, hr, h1⟩ := lp_rule (body := f_X10_lengthAt_l4 (nI n) a) (fun sg => ∃ r : Nat, s + r ≤ n ∧ sg.1 = nI r ∧ sg.2 = nI (s + r) ∧ ∀ j, j < r → aln (B (s + j)) = true) (fun sg => n - sg.2.toNatClampNeg) (fun t => ∃ r, isRn B n s r ∧ t.1 = nI r)
    (by
      intro sg hinv
      obtain ⟨r, hr, e1, e2, hall⟩ := hinv
      unfold f_X10_lengthAt_l4
      rw [e1, e2]
      by_cases hlt : s + r < n
      · rw [if_neg (nI_ge hlt (by omega))]
        obtain ⟨b1, b2⟩ := hB (s + r) hlt
        rw [letter_C (by omega) b1 b2, digit_C (by omega) b1 b2]
        simp only [bs]
        have mes : n - (nI (s + r) + 1).toNatClampNeg < n - (nI (s + r)).toNatClampNeg := by rw [nI_1, nI_clamp (by omega), nI_clamp (by omega)]; omega
        have ext : aln (B (s + r)) = true → ∀ j, j < r + 1 → aln (B (s + j)) = true := by
          intro h j hj
          by_cases hjr : j < r
          · exact hall j hjr
          · obtain rfl : j = r := by omega
            exact h
        by_cases hl : ob (ltr (B (s + r))) = 0
        · rw [if_pos hl]
          have hl2 := (ob_z _).mp hl
          by_cases hd : ob (dig (B (s + r))) = 0
          · rw [if_pos hd]
            have hd2 := (ob_z _).mp hd
            exact Or.inr ⟨_, rfl, r, ⟨hr, hall, fun _ => by unfold aln; rw [hl2, hd2]; rfl⟩, rfl⟩
          · rw [if_neg hd]
            have hd2 : dig (B (s + r)) = true := by cases h : dig (B (s + r)) with
              | true => rfl
              | false => exact absurd ((ob_z _).mpr h) hd
            exact Or.inl ⟨_, rfl, ⟨r + 1, by omega, by rw [← nI_1], nI_1 (s + r), ext (by unfold aln; rw [hd2, Bool.or_true])⟩, mes⟩
        · rw [if_neg hl]
          have hl2 : ltr (B (s + r)) = true := by cases h : ltr (B (s + r)) with
            | true => rfl
            | false => exact absurd ((ob_z _).mpr h) hl
          exact Or.inl ⟨_, rfl, ⟨r + 1, by omega, by rw [← nI_1], nI_1 (s + r), ext (by unfold aln; rw [hl2, Bool.true_or])⟩, mes⟩
      · rw [if_pos (nI_le (by omega) (by omega))]
        exact Or.inr ⟨_, rfl, r, ⟨hr, hall, fun z => absurd z hlt⟩, rfl⟩)
    gFU (0, nI s) ⟨0, by omega, nI_0.symm, rfl, fun j hj => absurd hj (Nat.not_lt_zero j)⟩ (by show n - (nI s).toNatClampNeg < 100000; omega)
  refine ⟨r, hr, ?_⟩
  unfold f_X10_lengthAt
  rw [ht]; simp only [bs]
  unfold f_X10_lengthAt_b40
  rw [h1]
  have hrl := hr.1
  by_cases h0 : r = 0
  · subst h0; rfl
  · rw [show (1 : Int32) = nI 1 from rfl, if_neg (nI_nlt (a := r) (b := 1) (by omega) (by omega)), if_neg h0]
