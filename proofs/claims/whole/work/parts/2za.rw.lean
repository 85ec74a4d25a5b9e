/-! the reference reads a token -/
def nmS (v c : Nat) : Nat := 27 * v + (c - 96)
def nmN (l : List Nat) : Nat := l.foldl nmS 0
def nvS (v c : Nat) : Nat := 10 * v + (c - 48)
def numV (l : List Nat) : Nat := l.foldl nvS 0
theorem nmN_app (l : List Nat) (c : Nat) : nmN (l ++ [c]) = 27 * nmN l + (c - 96) := by
  unfold nmN; rw [List.foldl_append]; rfl
theorem numV_app (l : List Nat) (c : Nat) : numV (l ++ [c]) = 10 * numV l + (c - 48) := by
  unfold numV; rw [List.foldl_append]; rfl
theorem ltr_iff {v : Nat} : ltr v = true ↔ 97 ≤ v ∧ v ≤ 122 := decide_eq_true_iff
theorem dig_iff {v : Nat} : dig v = true ↔ 48 ≤ v ∧ v ≤ 57 := decide_eq_true_iff
theorem nmN_b {B : Nat → Nat} {s : Nat} : ∀ k, (∀ j, j < k → ltr (B (s + j)) = true) → nmN (bts B s k) + 1 ≤ 27 ^ k
  | 0, _ => by simp [bts, nmN]
  | k + 1, h => by
    have ih := nmN_b k (fun j hj => h j (by omega))
    have hc := ltr_iff.mp (h k (by omega))
    rw [bts_suc, nmN_app, Nat.pow_succ]
    omega
theorem numV_b {B : Nat → Nat} {s : Nat} : ∀ k, (∀ j, j < k → dig (B (s + j)) = true) → numV (bts B s k) + 1 ≤ 10 ^ k
  | 0, _ => by simp [bts, numV]
  | k + 1, h => by
    have ih := numV_b k (fun j hj => h j (by omega))
    have hc := dig_iff.mp (h k (by omega))
    rw [bts_suc, numV_app, Nat.pow_succ]
    omega
theorem l_add {a b : Int64} (h1 : -9223372036854775808 ≤ a.toInt + b.toInt) (h2 : a.toInt + b.toInt < 9223372036854775808) : (a + b).toInt = a.toInt + b.toInt := by
  rw [Int64.toInt_add]
  exact Int.bmod_eq_of_le (by omega) (by omega)
theorem l_sub {a b : Int64} (h1 : -9223372036854775808 ≤ a.toInt - b.toInt) (h2 : a.toInt - b.toInt < 9223372036854775808) : (a - b).toInt = a.toInt - b.toInt := by
  rw [Int64.toInt_sub]
  exact Int.bmod_eq_of_le (by omega) (by omega)
theorem l_mul {a b : Int64} (h1 : -9223372036854775808 ≤ a.toInt * b.toInt) (h2 : a.toInt * b.toInt < 9223372036854775808) : (a * b).toInt = a.toInt * b.toInt := by
  rw [Int64.toInt_mul]
  exact Int.bmod_eq_of_le (by omega) (by omega)
theorem nm_step {m : Int64} {v c : Nat} (hm : m.toInt = (v : Int)) (hv : v + 1 ≤ 27 ^ 7) (hc : 97 ≤ c ∧ c ≤ 122) : (((27 : Int64) * m + (nI c).toInt64) - 96).toInt = ((27 * v + (c - 96) : Nat) : Int) := by
  have h27 : (27 : Int64).toInt = 27 := by decide
  have h96 : (96 : Int64).toInt = 96 := by decide
  have hv2 : v + 1 ≤ 10460353203 := hv
  have e1 : ((27 : Int64) * m).toInt = 27 * (v : Int) := by
    rw [l_mul (by rw [h27, hm]; omega) (by rw [h27, hm]; omega), h27, hm]
  have e2 : ((nI c).toInt64).toInt = (c : Int) := by rw [Int32.toInt_toInt64, nI_toInt (by omega)]
  have e3 : ((27 : Int64) * m + (nI c).toInt64).toInt = 27 * (v : Int) + c := by
    rw [l_add (by rw [e1, e2]; omega) (by rw [e1, e2]; omega), e1, e2]
  rw [l_sub (by rw [e3, h96]; omega) (by rw [e3, h96]; omega), e3, h96]
  omega
theorem nv_step {v c : Nat} (hc : 48 ≤ c ∧ c ≤ 57) : ((10 : Int32) * nI v + nI c) - 48 = nI (10 * v + (c - 48)) := by
  rw [show (10 : Int32) = nI 10 from rfl, show (48 : Int32) = nI 48 from rfl, pk_mul, nI_add, pk_sub (by omega)]
  congr 1; omega
theorem blanks_R {a : Nat → Int32} {B : Nat → Nat} {n p : Nat} (hn : n ≤ 440) (hB : BT a n B) (hp : p ≤ n) : ∃ s, isSk B n p s ∧ f_X12_blanks (nI n) (nI p) a = some (nI s) := by
  obtain ⟨t, ht, s, hs, e⟩ := lp_rule (body := f_X12_blanks_l0 (nI n) a) (fun sg => ∃ s : Nat, p ≤ s ∧ s ≤ n ∧ sg = nI s ∧ ∀ j, p ≤ j → j < s → blk (B j) = true) (fun sg => n - sg.toNatClampNeg) (fun t => ∃ s, isSk B n p s ∧ t = nI s)
    (by
      intro sg hinv
      obtain ⟨s, h1, h2, rfl, h3⟩ := hinv
      unfold f_X12_blanks_l0 f_X12_blanks_b39
      by_cases hlt : s < n
      · obtain ⟨b1, b2⟩ := hB s hlt
        rw [if_neg (nI_ge hlt (by omega)), gIn_of (vp_in_nI (by omega) (by omega)), gIn_of (vp_in_nI (by omega) (by omega)), nI_clamp (by omega), b2]
        have ext : blk (B s) = true → ∀ j, p ≤ j → j < s + 1 → blk (B j) = true := by
          intro hb j j1 j2
          by_cases hj : j = s
          · subst hj; exact hb
          · exact h3 j j1 (by omega)
        have mes : n - (nI s + 1).toNatClampNeg < n - s := by rw [nI_1, nI_clamp (by omega)]; omega
        by_cases c1 : B s = 32
        · rw [if_pos (by rw [c1]; rfl)]
          exact Or.inl ⟨_, rfl, ⟨s + 1, by omega, by omega, by rw [← nI_1], ext (by rw [c1]; rfl)⟩, mes⟩
        · have c1' : ¬ nI (B s) = (32 : Int32) := fun z => c1 ((nI_eq (by omega) (by omega)).mp z)
          rw [if_neg c1']
          by_cases c2 : B s = 10
          · rw [if_pos (by rw [c2]; rfl)]
            exact Or.inl ⟨_, rfl, ⟨s + 1, by omega, by omega, by rw [← nI_1], ext (by rw [c2]; rfl)⟩, mes⟩
          · have c2' : ¬ nI (B s) = (10 : Int32) := fun z => c2 ((nI_eq (by omega) (by omega)).mp z)
            rw [if_neg c2']
            exact Or.inr ⟨_, rfl, s, ⟨h1, h2, h3, fun _ => decide_eq_false (by omega)⟩, rfl⟩
      · rw [if_pos (nI_le (by omega) (by omega))]
        exact Or.inr ⟨_, rfl, s, ⟨h1, h2, h3, fun z => absurd z hlt⟩, rfl⟩)
    gFU (nI p) ⟨p, Nat.le_refl _, hp, rfl, fun j j1 j2 => by omega⟩ (by show n - (nI p).toNatClampNeg < 100000; omega)
  unfold f_X12_blanks
  rw [ht]
  exact ⟨s, hs, by rw [← e]; rfl⟩
/-- what the reference calls a token of this type (but for the end) -/
def kR (ty : Nat) : Nat := if ty ≤ 8 then 2 else if ty = 9 then 3 else if ty = 10 then 4 else 1
theorem byteAt_R {a : Nat → Int32} {B : Nat → Nat} {n p : Nat} (hn : n ≤ 440) (hB : BT a n B) (hp : p ≤ n) : f_X12_byteAt a (nI p) (nI n) = some (nI (if p < n then B p else 0)) := by
  unfold f_X12_byteAt
  by_cases h : p < n
  · rw [if_neg (nI_ge h (by omega)), gIn_of (vp_in_nI (by omega) (by omega)), nI_clamp (by omega), (hB p h).2, if_pos h]
  · rw [if_pos (nI_le (by omega) (by omega)), if_neg h]; rfl
def wdI (B : Nat → Nat) (s k : Nat) (good number : Int32) (name : Int64) : Prop :=
  good = ob (decide (∀ j, j < k → ltr (B (s + j)) = ltr (B s))) ∧ ((∀ j, j < k → ltr (B (s + j)) = true) → k ≤ 8 → name.toInt = nmN (bts B s k)) ∧ ((∀ j, j < k → dig (B (s + j)) = true) → k ≤ 4 → number = nI (numV (bts B s k)))
theorem ball_suc {p : Nat → Prop} {k : Nat} : (∀ j, j < k + 1 → p j) ↔ (∀ j, j < k → p j) ∧ p k :=
  ⟨fun h => ⟨fun j hj => h j (by omega), h k (by omega)⟩, fun h j hj => by
    by_cases hjk : j = k
    · subst hjk; exact h.2
    · exact h.1 j (by omega)⟩
theorem b61_R {a : Nat → Int32} {B : Nat → Nat} {n s k : Nat} (hn : n ≤ 440) (hB : BT a n B) (hk : s + k < n) (kd good number : Int32) (name : Int64) (h : wdI B s k good number name) :
    ∃ g' n' m', f_X12_readWord_b61 (nI n) (nI (s + k)) (nI s) kd number name a (ob (ltr (B s))) good = some (.inl (g', nI (s + (k + 1)), n', m')) ∧ wdI B s (k + 1) g' n' m' := by
  obtain ⟨w1, w2, w3⟩ := h
  obtain ⟨b1, b2⟩ := hB (s + k) hk
  have etf : nI (s + k) - nI s = nI k := by rw [pk_sub (by omega)]; congr 1; omega
  have tail : ∀ w0 : Int32, w0 = ob (decide (∀ j, j < k + 1 → ltr (B (s + j)) = ltr (B s))) → ∃ g' n' m', f_X12_readWord_b88 (nI n) (nI (s + k)) (nI s) kd number name a (ob (ltr (B s))) (nI (B (s + k))) w0 = some (.inl (g', nI (s + (k + 1)), n', m')) ∧ wdI B s (k + 1) g' n' m' := by
    intro w0 hw0
    unfold f_X12_readWord_b88 f_X12_readWord_b122 f_X12_readWord_b151
    rw [etf]
    have nmf : ∀ m', (k < 8 → m' = ((27 : Int64) * name + (nI (B (s + k))).toInt64) - 96) → (∀ j, j < k + 1 → ltr (B (s + j)) = true) → k + 1 ≤ 8 → m'.toInt = nmN (bts B s (k + 1)) := by
      intro m' hm' hall hk8
      have hall2 := ball_suc.mp hall
      rw [hm' (by omega), bts_suc, nmN_app]
      have hb := nmN_b k hall2.1
      exact nm_step (w2 hall2.1 (by omega)) (Nat.le_trans hb (Nat.pow_le_pow_right (by omega) (by omega))) (ltr_iff.mp hall2.2)
    have nvf : ∀ n' : Int32, (k < 4 → n' = ((10 : Int32) * number + nI (B (s + k))) - 48) → (∀ j, j < k + 1 → dig (B (s + j)) = true) → k + 1 ≤ 4 → n' = nI (numV (bts B s (k + 1))) := by
      intro n' hn' hall hk8
      have hall2 := ball_suc.mp hall
      rw [hn' (by omega), bts_suc, numV_app, w3 hall2.1 (by omega)]
      exact nv_step (dig_iff.mp hall2.2)
    by_cases c8 : 8 ≤ k
    · rw [if_pos (show (8 : Int32) ≤ nI k from nI_le (a := 8) (b := k) c8 (by omega)), if_pos (show (4 : Int32) ≤ nI k from nI_le (a := 4) (b := k) (by omega) (by omega)), nI_1]
      exact ⟨w0, number, name, rfl, hw0, nmf name (fun z => by omega), nvf number (fun z => by omega)⟩
    · rw [if_neg (show ¬ (8 : Int32) ≤ nI k from nI_ge (a := k) (b := 8) (by omega) (by omega))]
      by_cases c4 : 4 ≤ k
      · rw [if_pos (show (4 : Int32) ≤ nI k from nI_le (a := 4) (b := k) (by omega) (by omega)), nI_1]
        exact ⟨w0, number, _, rfl, hw0, nmf _ (fun _ => rfl), nvf number (fun z => by omega)⟩
      · rw [if_neg (show ¬ (4 : Int32) ≤ nI k from nI_ge (a := k) (b := 4) (by omega) (by omega)), nI_1]
        exact ⟨w0, _, _, rfl, hw0, nmf _ (fun _ => rfl), nvf _ (fun _ => rfl)⟩
  unfold f_X12_readWord_b61
  rw [gIn_of (vp_in_nI (by omega) (by omega)), nI_clamp (by omega), b2]
  by_cases hg : good = 0
  · rw [if_pos hg]
    unfold f_X12_readWord_b87
    refine tail 0 ?_
    rw [w1, ob_z] at hg
    have : ¬ ∀ j, j < k + 1 → ltr (B (s + j)) = ltr (B s) := fun z => of_decide_eq_false hg (ball_suc.mp z).1
    rw [decide_eq_false this]; rfl
  · rw [if_neg hg, letter_R b1]
    simp only [bs]
    have hg2 : ∀ j, j < k → ltr (B (s + j)) = ltr (B s) := by
      refine Classical.byContradiction (fun z => hg ?_)
      rw [w1, decide_eq_false z]; rfl
    by_cases he : ob (ltr (B (s + k))) = ob (ltr (B s))
    · rw [if_pos he]
      refine tail 1 ?_
      have he2 : ltr (B (s + k)) = ltr (B s) := by
        revert he
        cases ltr (B (s + k)) <;> cases ltr (B s) <;> decide
      rw [decide_eq_true (ball_suc.mpr ⟨hg2, he2⟩)]; rfl
    · rw [if_neg he]
      unfold f_X12_readWord_b87
      refine tail 0 ?_
      rw [decide_eq_false (fun z => he (by rw [(ball_suc.mp z).2]))]; rfl
theorem ty_ltr {l : List Nat} (h : ltr (l.headD 0) = true) (hl : l ≠ []) : tyOf l = if l.all ltr = true ∧ l.length ≤ 8 then kwO l else 12 := by
  cases l with
  | nil => exact absurd rfl hl
  | cons c r =>
    have h : ltr c = true := h
    have hc := ltr_iff.mp h
    unfold tyOf
    rw [if_neg (by intro e; cases e; omega), if_neg (by
      intro z
      have z1 := z.1
      rw [List.all_cons, Bool.and_eq_true] at z1
      have := dig_iff.mp z1.1
      omega)]
theorem word_R {a : Nat → Int32} {B : Nat → Nat} {n s : Nat} (hn : n ≤ 440) (hB : BT a n B) (hs : s < n) (ha : aln (B s) = true) (kd nu : Int32) (nm : Int64) :
    ∃ q r, isRn B n s r ∧ 1 ≤ r ∧ f_X12_readWord (nI n) (nI s) (nI s) kd nu nm a = some q ∧ q.1 = nI (s + r) ∧ q.2.1 = nI (kR (tyOf (bts B s r))) ∧ (tyOf (bts B s r) ≤ 8 → q.2.2.2.toInt = nmN (bts B s r)) ∧ (tyOf (bts B s r) = 9 → q.2.2.1 = nI (numV (bts B s r))) := by
  obtain ⟨b1, b2⟩ := hB s hs
  obtain ⟨t, ht, r, hr, e1, w1, w2, w3⟩ := lp_rule (body := f_X12_readWord_l25 (nI n) (nI s) kd a (ob (ltr (B s)))) (fun sg => ∃ k : Nat, s + k ≤ n ∧ sg.2.1 = nI (s + k) ∧ (∀ j, j < k → aln (B (s + j)) = true) ∧ wdI B s k sg.1 sg.2.2.1 sg.2.2.2) (fun sg => n - sg.2.1.toNatClampNeg) (fun t => ∃ r, isRn B n s r ∧ t.2.1 = nI (s + r) ∧ wdI B s r t.1 t.2.2.1 t.2.2.2)
    (by
      intro sg hinv
      obtain ⟨k, hk, e1, hall, hw⟩ := hinv
      unfold f_X12_readWord_l25
      rw [e1, byteAt_R hn hB hk]
      simp only [bs]
      have hv : (if s + k < n then B (s + k) else 0) < 256 := by
        split
        · exact (hB _ (by assumption)).1
        · omega
      rw [letter_R hv, digit_R hv]
      simp only [bs]
      by_cases hlt : s + k < n
      · rw [if_pos hlt]
        have go : aln (B (s + k)) = true → ∃ s', f_X12_readWord_b61 (nI n) (nI (s + k)) (nI s) kd sg.2.2.1 sg.2.2.2 a (ob (ltr (B s))) sg.1 = some (.inl s') ∧ (∃ k : Nat, s + k ≤ n ∧ s'.2.1 = nI (s + k) ∧ (∀ j, j < k → aln (B (s + j)) = true) ∧ wdI B s k s'.1 s'.2.2.1 s'.2.2.2) ∧ n - s'.2.1.toNatClampNeg < n - (nI (s + k)).toNatClampNeg := by
          intro hal
          obtain ⟨g', n', m', x1, x2⟩ := b61_R hn hB hlt kd sg.1 sg.2.2.1 sg.2.2.2 hw
          refine ⟨_, x1, ⟨k + 1, by omega, rfl, ball_suc.mpr ⟨hall, hal⟩, x2⟩, ?_⟩
          show n - (nI (s + (k + 1))).toNatClampNeg < _
          rw [nI_clamp (by omega), nI_clamp (by omega)]; omega
        cases hl : ltr (B (s + k)) with
        | true =>
          rw [ob_1, if_neg (show ¬ (1 : Int32) = 0 by decide)]
          exact Or.inl (go (by unfold aln; rw [hl]; rfl))
        | false =>
          rw [ob_0, if_pos rfl]
          cases hd : dig (B (s + k)) with
          | true =>
            rw [ob_1, if_neg (show ¬ (1 : Int32) = 0 by decide)]
            exact Or.inl (go (by unfold aln; rw [hl, hd]; rfl))
          | false =>
            rw [ob_0, if_pos rfl]
            exact Or.inr ⟨_, rfl, k, ⟨hk, hall, fun _ => by unfold aln; rw [hl, hd]; rfl⟩, rfl, hw⟩
      · rw [if_neg hlt, show ltr 0 = false from rfl, show dig 0 = false from rfl, ob_0, if_pos rfl, if_pos rfl]
        exact Or.inr ⟨_, rfl, k, ⟨hk, hall, fun z => absurd z hlt⟩, rfl, hw⟩)
    gFU (1, nI s, 0, 0) ⟨0, by omega, rfl, fun j hj => absurd hj (Nat.not_lt_zero j), by rw [decide_eq_true (fun j hj => absurd hj (Nat.not_lt_zero j))]; rfl, fun _ _ => rfl, fun _ _ => rfl⟩ (by show n - (nI s).toNatClampNeg < 100000; omega)
  have hr1 : 1 ≤ r := Nat.pos_of_ne_zero (fun z => by
    subst z
    have := hr.2.2 (by omega)
    rw [Nat.add_zero, ha] at this
    exact absurd this (by decide))
  unfold f_X12_readWord
  rw [gIn_of (vp_in_nI (by omega) (by omega)), nI_clamp (by omega), b2, letter_R b1]
  simp only [bs]
  rw [ht]; simp only [bs]
  rw [e1]
  have etf : nI (s + r) - nI s = nI r := by rw [pk_sub (by omega)]; congr 1; omega
  rw [etf]
  have hrn := hr.1
  have hne : bts B s r ≠ [] := fun z => by have := bts_len B s r; rw [z] at this; simp at this; omega
  have hhd : (bts B s r).headD 0 = B s := by
    have := bts_get (B := B) (s := s) (show 0 < r by omega)
    rw [Nat.add_zero] at this
    rw [List.headD_eq_head?_getD, List.head?_eq_getElem?, this]; rfl
  have hlen := bts_len B s r
  have hn59 : bts B s r ≠ [59] := by
    intro z
    rw [z] at hhd
    have hhd : 59 = B s := hhd
    rw [← hhd] at ha
    exact absurd ha (by decide)
  unfold f_X12_readWord_b204 f_X12_readWord_b188 f_X12_readWord_b204
  by_cases hg : t.1 = 0
  · rw [if_pos hg]
    rw [w1, ob_z] at hg
    have hmix := of_decide_eq_false hg
    have ety : tyOf (bts B s r) = 12 := by
      unfold tyOf
      rw [if_neg hn59, if_neg, if_neg]
      · intro z
        exact hmix (fun j hj => by
          have h1 := all_iff.mp z.1 j hj
          have h2 := all_iff.mp z.1 0 (by omega)
          rw [Nat.add_zero] at h2
          rw [h1, h2])
      · intro z
        exact hmix (fun j hj => by
          have h1 := dig_iff.mp (all_iff.mp z.1 j hj)
          have h2 := dig_iff.mp (all_iff.mp z.1 0 (by omega))
          rw [Nat.add_zero] at h2
          unfold ltr
          rw [decide_eq_false (by omega), decide_eq_false (by omega)])
    refine ⟨_, r, hr, hr1, rfl, rfl, by rw [ety]; rfl, fun z => by rw [ety] at z; omega, fun z => by rw [ety] at z; omega⟩
  · rw [if_neg hg]
    have hsame : ∀ j, j < r → ltr (B (s + j)) = ltr (B s) := by
      refine Classical.byContradiction (fun z => hg ?_)
      rw [w1, decide_eq_false z]; rfl
    cases hl : ltr (B s) with
    | true =>
      rw [ob_1, if_neg (show ¬ (1 : Int32) = 0 by decide), if_neg (show ¬ (1 : Int32) = 0 by decide)]
      have hall : ∀ j, j < r → ltr (B (s + j)) = true := fun j hj => by rw [hsame j hj, hl]
      have ety : tyOf (bts B s r) = if (bts B s r).all ltr = true ∧ (bts B s r).length ≤ 8 then kwO (bts B s r) else 12 := ty_ltr (by rw [hhd]; exact hl) hne
      have hk := kwO_le (bts B s r)
      by_cases h8 : r ≤ 8
      · rw [if_pos (show nI r ≤ (8 : Int32) from nI_le (a := r) (b := 8) h8 (by omega))]
        rw [if_pos ⟨all_iff.mpr hall, by omega⟩] at ety
        refine ⟨_, r, hr, hr1, rfl, rfl, ?_, fun _ => w2 hall h8, fun z => by omega⟩
        rw [ety]; unfold kR; rw [if_pos hk]; rfl
      · rw [if_neg (show ¬ nI r ≤ (8 : Int32) from nI_ge (a := 8) (b := r) (by omega) (by omega))]
        rw [if_neg (fun z => h8 (by omega))] at ety
        refine ⟨_, r, hr, hr1, rfl, rfl, by rw [ety]; rfl, fun z => by omega, fun z => by omega⟩
    | false =>
      rw [ob_0, if_pos rfl, if_pos rfl]
      have hall : ∀ j, j < r → dig (B (s + j)) = true := by
        intro j hj
        have h1 := hr.2.1 j hj
        unfold aln at h1
        rw [hsame j hj, hl] at h1
        exact h1
      by_cases h4 : r ≤ 4
      · rw [if_pos (show nI r ≤ (4 : Int32) from nI_le (a := r) (b := 4) h4 (by omega))]
        have ety : tyOf (bts B s r) = 9 := by
          unfold tyOf
          rw [if_neg hn59, if_pos ⟨all_iff.mpr hall, by omega⟩]
        exact ⟨_, r, hr, hr1, rfl, rfl, by rw [ety]; rfl, fun z => by omega, fun _ => w3 hall h4⟩
      · rw [if_neg (show ¬ nI r ≤ (4 : Int32) from nI_ge (a := 4) (b := r) (by omega) (by omega))]
        have ety : tyOf (bts B s r) = 12 := by
          unfold tyOf
          rw [if_neg hn59, if_neg (fun z => h4 (by omega)), if_neg (fun z => by
            have h2 := all_iff.mp z.1 0 (by omega)
            rw [Nat.add_zero, hl] at h2
            exact absurd h2 (by decide))]
        exact ⟨_, r, hr, hr1, rfl, rfl, by rw [ety]; rfl, fun z => by omega, fun z => by omega⟩
