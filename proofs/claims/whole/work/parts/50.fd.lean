/-! feed: four bytes of a number -/
def wb (x : Int32) (j : Nat) : Nat := x.toBitVec.toNat / 2 ^ (24 - 8 * j) % 256
theorem wb_lt (x : Int32) (j : Nat) : wb x j < 256 := Nat.mod_lt _ (by omega)
def shI : Nat → Int32
  | 0 => 24
  | 1 => 16
  | 2 => 8
  | 3 => 0
  | _ => -8
theorem fd_R (x : Int32) : ∀ j, j < 4 → ((x.toUInt32 >>> (Int32.toUInt32 (shI j) &&& Int32.toUInt32 31)).toInt32) &&& 255 = nI (wb x j) := by
  intro j hj
  have h4 : j = 0 ∨ j = 1 ∨ j = 2 ∨ j = 3 := by omega
  rcases h4 with rfl | rfl | rfl | rfl
  · rw [pk_and _ 8 (by decide), pk_ushr x (shI 0) 24 (by decide)]; rfl
  · rw [pk_and _ 8 (by decide), pk_ushr x (shI 1) 16 (by decide)]; rfl
  · rw [pk_and _ 8 (by decide), pk_ushr x (shI 2) 8 (by decide)]; rfl
  · rw [pk_and _ 8 (by decide), pk_ushr x (shI 3) 0 (by decide)]; rfl
theorem toInt_nat (x : Int32) : x.toInt = if x.toBitVec.toNat < 2147483648 then (x.toBitVec.toNat : Int) else (x.toBitVec.toNat : Int) - 4294967296 := by
  have h := BitVec.toInt_eq_toNat_cond x.toBitVec
  show x.toBitVec.toInt = _
  rw [h]
  by_cases c : x.toBitVec.toNat < 2147483648
  · rw [if_pos (by omega), if_pos c]
  · rw [if_neg (by omega), if_neg c]; rfl
theorem fd_aux (X k : Nat) (hk : k = 0 ∨ k = 8 ∨ k = 16 ∨ k = 24) (z : Int) (hz : z = (X : Int) ∨ z = (X : Int) - 4294967296) : Int.bmod (z >>> k) 256 = if X / 2 ^ k % 256 < 128 then ((X / 2 ^ k % 256 : Nat) : Int) else ((X / 2 ^ k % 256 : Nat) : Int) - 256 := by
  rw [Int.shiftRight_eq_div_pow]
  rcases hk with rfl | rfl | rfl | rfl
  · rw [show ((2 ^ 0 : Nat) : Int) = 1 from rfl, show (2 ^ 0 : Nat) = 1 from rfl]
    rw [Int.bmod_def]
    rcases hz with rfl | rfl
    · split <;> split <;> omega
    · split <;> split <;> omega
  · rw [show ((2 ^ 8 : Nat) : Int) = 256 from rfl, show (2 ^ 8 : Nat) = 256 from rfl]
    rw [Int.bmod_def]
    rcases hz with rfl | rfl
    · split <;> split <;> omega
    · split <;> split <;> omega
  · rw [show ((2 ^ 16 : Nat) : Int) = 65536 from rfl, show (2 ^ 16 : Nat) = 65536 from rfl]
    rw [Int.bmod_def]
    rcases hz with rfl | rfl
    · split <;> split <;> omega
    · split <;> split <;> omega
  · rw [show ((2 ^ 24 : Nat) : Int) = 16777216 from rfl, show (2 ^ 24 : Nat) = 16777216 from rfl]
    rw [Int.bmod_def]
    rcases hz with rfl | rfl
    · split <;> split <;> omega
    · split <;> split <;> omega
theorem nar_8 (z : Int32) : vp_nar .byte (z.toInt8.toInt32) = z.toInt8.toInt32 := by
  unfold vp_nar
  rw [pk_nb]
theorem fd_k (x s : Int32) (k j : Nat) (hk : k = 0 ∨ k = 8 ∨ k = 16 ∨ k = 24) (hj : 24 - 8 * j = k) (hs : (s.toBitVec.smod 32).toNat = k) : vp_nar .byte ((x >>> s).toInt8.toInt32) = bI (wb x j) := by
  rw [nar_8, i_eq, bI_toInt (wb_lt x j), Int8.toInt_toInt32, Int32.toInt_toInt8, pk_shr x s k hs]
  unfold wb
  rw [hj]
  refine fd_aux _ k hk _ ?_
  rw [toInt_nat]
  split
  · exact Or.inl rfl
  · exact Or.inr rfl
theorem fd_C (x : Int32) : ∀ j, j < 4 → vp_nar .byte ((x >>> (shI j &&& 31)).toInt8.toInt32) = bI (wb x j) := by
  intro j hj
  have h4 : j = 0 ∨ j = 1 ∨ j = 2 ∨ j = 3 := by omega
  rcases h4 with rfl | rfl | rfl | rfl
  · exact fd_k x (shI 0 &&& 31) 24 0 (by omega) (by omega) (by decide)
  · exact fd_k x (shI 1 &&& 31) 16 1 (by omega) (by omega) (by decide)
  · exact fd_k x (shI 2 &&& 31) 8 2 (by omega) (by omega) (by decide)
  · exact fd_k x (shI 3 &&& 31) 0 3 (by omega) (by omega) (by decide)
def fdB (B : Nat → Nat) (n : Nat) (x : Int32) (i : Nat) : Nat := if i < n then B i else wb x (i - n)
theorem shI_s : ∀ j, j < 4 → ¬ shI j < 0 ∧ shI j + (-8) = shI (j + 1) := by decide
theorem put_4C {a : Nat → Int32} {B : Nat → Nat} {n : Nat} (hn : n + 4 ≤ 440) (hB : BY a n B) (x : Int32) : ∃ a', f_X7_putNumber (nI n) a x = some (nI (n + 4), a') ∧ BY a' (n + 4) (fdB B n x) := by
  obtain ⟨t, ht, h1, h2⟩ := lp_rule (body := f_X7_putNumber_l3 x) (fun sg => ∃ j : Nat, j ≤ 4 ∧ sg.1 = shI j ∧ sg.2.1 = nI (n + j) ∧ BY sg.2.2 (n + j) (fdB B n x)) (fun sg => 444 - sg.2.1.toNatClampNeg) (fun t => t.2.1 = nI (n + 4) ∧ BY t.2.2 (n + 4) (fdB B n x))
    (by
      intro sg hinv
      obtain ⟨j, hj, e1, e2, h3⟩ := hinv
      unfold f_X7_putNumber_l3
      rw [e1, e2]
      by_cases hlt : j < 4
      · obtain ⟨s1, s2⟩ := shI_s j hlt
        rw [if_neg s1, if_neg (show ¬ (440 : Int32) ≤ nI (n + j) from nI_ge (a := n + j) (b := 440) (by omega) (by omega)), gIn_of (vp_in_nI (by omega) (by omega)), s2, nI_1, nI_clamp (by omega), fd_C x j hlt]
        refine Or.inl ⟨_, rfl, ⟨j + 1, hlt, rfl, rfl, fun i hi => ?_⟩, ?_⟩
        · show fdB B n x i < 256 ∧ upd sg.2.2 (n + j) (bI (wb x j)) i = bI (fdB B n x i)
          by_cases hin : i = n + j
          · subst hin
            have ef : fdB B n x (n + j) = wb x j := by unfold fdB; rw [if_neg (by omega), Nat.add_sub_cancel_left]
            rw [upd_s, ef]
            exact ⟨wb_lt x j, rfl⟩
          · rw [upd_n hin]
            exact h3 i (by omega)
        · show 444 - (nI (n + j + 1)).toNatClampNeg < 444 - (n + j)
          rw [nI_clamp (by omega)]; omega
      · obtain rfl : j = 4 := by omega
        rw [if_pos (show shI 4 < 0 by decide)]
        exact Or.inr ⟨_, rfl, rfl, h3⟩)
    gFU (24, nI n, a) ⟨0, by omega, rfl, rfl, fun i hi => by
      have hi : i < n := hi
      have ef : fdB B n x i = B i := by unfold fdB; rw [if_pos hi]
      rw [ef]; exact hB i hi⟩ (by show 444 - (nI n).toNatClampNeg < 100000; omega)
  refine ⟨t.2.2, ?_, h2⟩
  unfold f_X7_putNumber
  rw [ht]; simp only [bs]
  rw [h1]
theorem put_4R {a : Nat → Int32} {B : Nat → Nat} {n : Nat} (hn : n + 4 ≤ 440) (hB : BT a n B) (x : Int32) : ∃ a', f_X12_come (nI n) a x = some (nI (n + 4), a') ∧ BT a' (n + 4) (fdB B n x) := by
  obtain ⟨t, ht, h1, h2⟩ := lp_rule (body := f_X12_come_l3 x) (fun sg => ∃ j : Nat, j ≤ 4 ∧ sg.1 = shI j ∧ sg.2.1 = nI (n + j) ∧ BT sg.2.2 (n + j) (fdB B n x)) (fun sg => 444 - sg.2.1.toNatClampNeg) (fun t => t.2.1 = nI (n + 4) ∧ BT t.2.2 (n + 4) (fdB B n x))
    (by
      intro sg hinv
      obtain ⟨j, hj, e1, e2, h3⟩ := hinv
      unfold f_X12_come_l3
      rw [e1, e2]
      by_cases hlt : j < 4
      · obtain ⟨s1, s2⟩ := shI_s j hlt
        rw [if_neg s1, gIn_of (vp_in_nI (by omega) (by omega)), s2, nI_1, nI_clamp (by omega), fd_R x j hlt]
        refine Or.inl ⟨_, rfl, ⟨j + 1, hlt, rfl, rfl, fun i hi => ?_⟩, ?_⟩
        · show fdB B n x i < 256 ∧ upd sg.2.2 (n + j) (nI (wb x j)) i = nI (fdB B n x i)
          by_cases hin : i = n + j
          · subst hin
            have ef : fdB B n x (n + j) = wb x j := by unfold fdB; rw [if_neg (by omega), Nat.add_sub_cancel_left]
            rw [upd_s, ef]
            exact ⟨wb_lt x j, rfl⟩
          · rw [upd_n hin]
            exact h3 i (by omega)
        · show 444 - (nI (n + j + 1)).toNatClampNeg < 444 - (n + j)
          rw [nI_clamp (by omega)]; omega
      · obtain rfl : j = 4 := by omega
        rw [if_pos (show shI 4 < 0 by decide)]
        exact Or.inr ⟨_, rfl, rfl, h3⟩)
    gFU (24, nI n, a) ⟨0, by omega, rfl, rfl, fun i hi => by
      have hi : i < n := hi
      have ef : fdB B n x i = B i := by unfold fdB; rw [if_pos hi]
      rw [ef]; exact hB i hi⟩ (by show 444 - (nI n).toNatClampNeg < 100000; omega)
  refine ⟨t.2.2, ?_, h2⟩
  unfold f_X12_come
  rw [ht]; simp only [bs]
  rw [h1]
def fd5 (B : Nat → Nat) (n : Nat) (a b c d e : Int32) : Nat → Nat := fdB (fdB (fdB (fdB (fdB B n a) (n + 4) b) (n + 8) c) (n + 12) d) (n + 16) e
theorem feed_C {t : Nat → Int32} {B : Nat → Nat} {n : Nat} (hn : n ≤ 440) (hB : BY t n B) (a b c d e : Int32) :
    ∃ q, f_X11_feed (nI n) t a b c d e = some q ∧ (n ≤ 420 → q.1 = nI (n + 20) ∧ q.2.1 = nI (n + 20) ∧ BY q.2.2 (n + 20) (fd5 B n a b c d e)) ∧ (¬ n ≤ 420 → q.1 = -1 ∧ q.2.1 = nI n ∧ q.2.2 = t) := by
  unfold f_X11_feed
  by_cases h : n ≤ 420
  · rw [if_pos (show nI n ≤ (420 : Int32) from nI_le (a := n) (b := 420) h (by omega))]
    obtain ⟨t1, e1, b1⟩ := put_4C (by omega) hB a
    obtain ⟨t2, e2, b2⟩ := put_4C (show n + 4 + 4 ≤ 440 by omega) b1 b
    obtain ⟨t3, e3, b3⟩ := put_4C (show n + 8 + 4 ≤ 440 by omega) b2 c
    obtain ⟨t4, e4, b4⟩ := put_4C (show n + 12 + 4 ≤ 440 by omega) b3 d
    obtain ⟨t5, e5, b5⟩ := put_4C (show n + 16 + 4 ≤ 440 by omega) b4 e
    rw [e1]; simp only [bs]; rw [e2]; simp only [bs]; rw [e3]; simp only [bs]; rw [e4]; simp only [bs]; rw [e5]; simp only [bs]
    exact ⟨_, rfl, fun _ => ⟨rfl, rfl, b5⟩, fun z => absurd h z⟩
  · rw [if_neg (show ¬ nI n ≤ (420 : Int32) from nI_ge (a := 420) (b := n) (by omega) (by omega))]
    exact ⟨_, rfl, fun z => absurd z h, fun _ => ⟨rfl, rfl, rfl⟩⟩
theorem feed_R {t : Nat → Int32} {B : Nat → Nat} {n : Nat} (hn : n ≤ 440) (hB : BT t n B) (th a b c d e : Int32) :
    ∃ q, f_X12_feed th (nI n) t a b c d e = some q ∧ q.2.1 = 0 ∧ (n ≤ 420 → q.1 = nI (n + 20) ∧ q.2.2.1 = nI (n + 20) ∧ BT q.2.2.2 (n + 20) (fd5 B n a b c d e)) ∧ (¬ n ≤ 420 → q.1 = -1 ∧ q.2.2.1 = nI n ∧ q.2.2.2 = t) := by
  unfold f_X12_feed
  rw [show (20 : Int32) = nI 20 from rfl, nI_add]
  by_cases h : n ≤ 420
  · rw [if_pos (show nI (n + 20) ≤ (440 : Int32) from nI_le (a := n + 20) (b := 440) (by omega) (by omega))]
    obtain ⟨t1, e1, b1⟩ := put_4R (by omega) hB a
    obtain ⟨t2, e2, b2⟩ := put_4R (show n + 4 + 4 ≤ 440 by omega) b1 b
    obtain ⟨t3, e3, b3⟩ := put_4R (show n + 8 + 4 ≤ 440 by omega) b2 c
    obtain ⟨t4, e4, b4⟩ := put_4R (show n + 12 + 4 ≤ 440 by omega) b3 d
    obtain ⟨t5, e5, b5⟩ := put_4R (show n + 16 + 4 ≤ 440 by omega) b4 e
    rw [e1]; simp only [bs]; rw [e2]; simp only [bs]; rw [e3]; simp only [bs]; rw [e4]; simp only [bs]; rw [e5]; simp only [bs]
    exact ⟨_, rfl, rfl, fun _ => ⟨rfl, rfl, b5⟩, fun z => absurd h z⟩
  · rw [if_neg (show ¬ nI (n + 20) ≤ (440 : Int32) from nI_ge (a := 440) (b := n + 20) (by omega) (by omega))]
    exact ⟨_, rfl, rfl, fun z => absurd z h, fun _ => ⟨rfl, rfl, rfl⟩⟩
