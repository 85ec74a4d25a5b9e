/-! the type of a token -/
theorem strlen_C : ∀ w, w < 13 → f_J0_length_8abf5 w = some (nI (kws w).length) := by decide +kernel
theorem strchr_C : ∀ w, w < 13 → ∀ j, j < (kws w).length → f_J0_charAt_5068e w (nI j) = some (nI ((kws w).getD j 0)) := by decide +kernel
theorem kws_b : ∀ w, w < 13 → ∀ j, j < (kws w).length → (kws w).getD j 0 < 128 := by decide +kernel
theorem kws_n : ∀ w, w < 13 → (kws w).length ≤ 6 := by decide +kernel
theorem spelled_C {a : Nat → Int32} {B : Nat → Nat} {n s l w : Nat} (hn : n ≤ 440) (hB : BY a n B) (hs : s + l ≤ n) (hw : w < 13) : f_X10_isSpelled a w (nI s) (nI l) = some (ob (decide (bts B s l = kws w))) := by
  unfold f_X10_isSpelled
  rw [gN_of hw, strlen_C w hw]
  simp only [bs]
  have hkn := kws_n w hw
  by_cases hl : nI (kws w).length = nI l
  · rw [if_pos hl]
    have hl2 : (kws w).length = l := (nI_eq (by omega) (by omega)).mp hl
    obtain ⟨t, ht, hp⟩ := lp_rule (body := f_X10_isSpelled_l13 a w (nI s) (nI l)) (fun sg => ∃ k : Nat, k ≤ l ∧ sg = nI k ∧ ∀ j, j < k → (kws w)[j]? = some (B (s + j))) (fun sg => l - sg.toNatClampNeg) (fun t => Sum.elim (fun _ => bts B s l = kws w) (fun r => r = 0 ∧ bts B s l ≠ kws w) t)
      (by
        intro sg hinv
        obtain ⟨k, hk, rfl, hall⟩ := hinv
        unfold f_X10_isSpelled_l13
        by_cases hlt : k < l
        · rw [if_neg (nI_ge hlt (by omega)), gN_of hw, strchr_C w hw k (by omega)]
          simp only [bs]
          obtain ⟨b1, b2⟩ := hB (s + k) (by omega)
          rw [nI_add, gIn_of (vp_in_nI (by omega) (by omega)), nI_clamp (by omega), b2]
          have hb := kws_b w hw k (by omega)
          have hget : (kws w)[k]? = some ((kws w).getD k 0) := by
            rw [List.getD_eq_getElem?_getD, List.getElem?_eq_getElem (by omega)]; rfl
          by_cases hc : nI ((kws w).getD k 0) = bI (B (s + k))
          · rw [if_pos hc]
            have hc2 := (bI_eq b1 hb).mp hc.symm
            refine Or.inl ⟨_, rfl, ⟨k + 1, hlt, by rw [← nI_1], fun j hj => ?_⟩, by rw [nI_1, nI_clamp (by omega), nI_clamp (by omega)]; omega⟩
            by_cases hjk : j < k
            · exact hall j hjk
            · obtain rfl : j = k := by omega
              rw [hget, ← hc2]
          · rw [if_neg hc]
            refine Or.inr ⟨_, rfl, rfl, fun e => hc ?_⟩
            have := bts_get (B := B) (s := s) hlt
            rw [e, hget] at this
            exact ((bI_eq b1 hb).mpr (Option.some.inj this).symm).symm
        · obtain rfl : k = l := by omega
          rw [if_pos (nI_le (Nat.le_refl _) (by omega))]
          exact Or.inr ⟨_, rfl, bts_ext hl2 hall⟩)
      gFU 0 ⟨0, by omega, nI_0.symm, fun j hj => absurd hj (Nat.not_lt_zero j)⟩ (by show l - (0 : Int32).toNatClampNeg < 100000; omega)
    rw [ht]; simp only [bs]
    cases t with
    | inl x => rw [decide_eq_true (show bts B s l = kws w from hp)]; rfl
    | inr r =>
      obtain ⟨h1, h2⟩ := hp
      rw [decide_eq_false h2]
      show some r = _
      rw [h1]; rfl
  · rw [if_neg hl, decide_eq_false]
    · rfl
    · intro e
      exact hl (by rw [← e, bts_len])
theorem kwO_of {l : List Nat} : ∀ i, i < 8 → l = kws i → (∀ j, j < i → l ≠ kws j) → kwO l = i := by
  intro i hi e hne
  unfold kwO
  have hc : i = 0 ∨ i = 1 ∨ i = 2 ∨ i = 3 ∨ i = 4 ∨ i = 5 ∨ i = 6 ∨ i = 7 := by omega
  rcases hc with rfl | rfl | rfl | rfl | rfl | rfl | rfl | rfl
  · rw [if_pos e]
  · rw [if_neg (hne 0 (by omega)), if_pos e]
  · rw [if_neg (hne 0 (by omega)), if_neg (hne 1 (by omega)), if_pos e]
  · rw [if_neg (hne 0 (by omega)), if_neg (hne 1 (by omega)), if_neg (hne 2 (by omega)), if_pos e]
  · rw [if_neg (hne 0 (by omega)), if_neg (hne 1 (by omega)), if_neg (hne 2 (by omega)), if_neg (hne 3 (by omega)), if_pos e]
  · rw [if_neg (hne 0 (by omega)), if_neg (hne 1 (by omega)), if_neg (hne 2 (by omega)), if_neg (hne 3 (by omega)), if_neg (hne 4 (by omega)), if_pos e]
  · rw [if_neg (hne 0 (by omega)), if_neg (hne 1 (by omega)), if_neg (hne 2 (by omega)), if_neg (hne 3 (by omega)), if_neg (hne 4 (by omega)), if_neg (hne 5 (by omega)), if_pos e]
  · rw [if_neg (hne 0 (by omega)), if_neg (hne 1 (by omega)), if_neg (hne 2 (by omega)), if_neg (hne 3 (by omega)), if_neg (hne 4 (by omega)), if_neg (hne 5 (by omega)), if_neg (hne 6 (by omega)), if_pos e]
theorem kwO_no {l : List Nat} (hne : ∀ j, j < 8 → l ≠ kws j) : kwO l = 8 := by
  unfold kwO
  rw [if_neg (hne 0 (by omega)), if_neg (hne 1 (by omega)), if_neg (hne 2 (by omega)), if_neg (hne 3 (by omega)), if_neg (hne 4 (by omega)), if_neg (hne 5 (by omega)), if_neg (hne 6 (by omega)), if_neg (hne 7 (by omega))]
theorem kws_nil : ∀ i, i < 13 → 8 ≤ i → kws i = [] := by decide +kernel
theorem wordAt_C {a : Nat → Int32} {B : Nat → Nat} {n s l : Nat} (hn : n ≤ 440) (hB : BY a n B) (hs : s + l ≤ n) (hl : 1 ≤ l) : f_X10_wordAt a (nI s) (nI l) = some (kwO (bts B s l)) := by
  have hnn : ∀ i, i < 13 → 8 ≤ i → bts B s l ≠ kws i := by
    intro i hi h8 e
    rw [kws_nil i hi h8] at e
    have := bts_len B s l
    rw [e] at this
    simp at this; omega
  obtain ⟨t, ht, hp⟩ := lp_rule (body := f_X10_wordAt_l2 a (nI s) (nI l)) (fun sg => ∃ i : Nat, i ≤ 13 ∧ sg = nI i ∧ ∀ j, j < i → bts B s l ≠ kws j) (fun sg => 13 - sg.toNatClampNeg) (fun t => Sum.elim (fun _ => kwO (bts B s l) = 8) (fun r => r = kwO (bts B s l)) t)
    (by
      intro sg hinv
      obtain ⟨i, hi, rfl, hne⟩ := hinv
      unfold f_X10_wordAt_l2
      by_cases hlt : i < 13
      · have h13 : ¬ (13 : Int32) ≤ nI i := nI_ge (a := i) (b := 13) hlt (by omega)
        rw [if_neg h13, gIn_of (vp_in_nI hlt (by omega)), nI_clamp (by omega), gN_of hlt, spelled_C hn hB hs hlt, gIn_of (vp_in_nI hlt (by omega))]
        simp only [bs]
        by_cases he : bts B s l = kws i
        · rw [decide_eq_true he, ob_1, if_neg (show ¬ (1 : Int32) = 0 by decide)]
          have hi8 : i < 8 := Nat.lt_of_not_le (fun z => hnn i hlt z he)
          exact Or.inr ⟨_, rfl, (kwO_of i hi8 he hne).symm⟩
        · rw [decide_eq_false he, ob_0, if_pos rfl]
          refine Or.inl ⟨_, rfl, ⟨i + 1, hlt, by rw [← nI_1], fun j hj => ?_⟩, by rw [nI_1, nI_clamp (by omega)]; omega⟩
          by_cases hji : j < i
          · exact hne j hji
          · obtain rfl : j = i := by omega
            exact he
      · obtain rfl : i = 13 := by omega
        rw [if_pos (show (13 : Int32) ≤ nI 13 by decide)]
        exact Or.inr ⟨_, rfl, kwO_no (fun j hj => hne j (by omega))⟩)
    gFU 0 ⟨0, by omega, nI_0.symm, fun j hj => absurd hj (Nat.not_lt_zero j)⟩ (by show 13 - (0 : Int32).toNatClampNeg < 100000; omega)
  unfold f_X10_wordAt
  rw [ht]; simp only [bs]
  cases t with
  | inl x =>
    have hp : kwO (bts B s l) = 8 := hp
    rw [hp]; rfl
  | inr r =>
    have hp : r = kwO (bts B s l) := hp
    rw [← hp]; rfl
theorem ct_all {p : Nat → Bool} : ∀ n, ct p n = n ↔ ∀ k, k < n → p k = true
  | 0 => ⟨fun _ k hk => absurd hk (Nat.not_lt_zero k), fun _ => rfl⟩
  | n + 1 => by
    have ih := ct_all (p := p) n
    have hle := ct_le p n
    unfold ct
    constructor
    · intro h k hk
      by_cases hp : p n = true
      · rw [if_pos hp] at h
        by_cases hkn : k < n
        · exact ih.mp (by omega) k hkn
        · obtain rfl : k = n := by omega
          exact hp
      · rw [if_neg hp] at h; omega
    · intro h
      rw [if_pos (h n (by omega)), ih.mpr (fun k hk => h k (by omega))]
theorem typeAt_C {a : Nat → Int32} {B : Nat → Nat} {n s l : Nat} (hn : n ≤ 440) (hB : BY a n B) (hs : s + l ≤ n) (hl : 1 ≤ l) (h59 : B s = 59 → l = 1) : f_X10_typeAt a (nI s) (nI l) = some (tyOf (bts B s l)) := by
  unfold f_X10_typeAt tyOf
  obtain ⟨b1, b2⟩ := hB s (by omega)
  rw [gIn_of (vp_in_nI (by omega) (by omega)), nI_clamp (by omega), b2]
  have hget := bts_get (B := B) (s := s) (show 0 < l by omega)
  rw [Nat.add_zero] at hget
  by_cases h1 : B s = 59
  · rw [show (59 : Int32) = nI 59 from rfl, if_pos ((bI_eq b1 (c := 59) (by omega)).mpr h1)]
    obtain rfl := h59 h1
    rw [if_pos (by show bts B s 1 = [59]; simp [bts, h1])]
  · have hne : ¬ bI (B s) = (59 : Int32) := fun z => h1 ((bI_eq b1 (c := 59) (by omega)).mp z)
    rw [if_neg hne, if_neg (by intro e; rw [e] at hget; exact h1 (Option.some.inj hget).symm)]
    obtain ⟨t, ht, hp1, hp2⟩ := lp_rule (body := f_X10_typeAt_l23 a (nI s) (nI l)) (fun sg => ∃ k : Nat, k ≤ l ∧ sg.2.2 = nI (s + k) ∧ sg.1 = nI (ct (fun j => dig (B (s + j))) k) ∧ sg.2.1 = nI (ct (fun j => ltr (B (s + j))) k)) (fun sg => s + l - sg.2.2.toNatClampNeg) (fun t => t.1 = nI (ct (fun j => dig (B (s + j))) l) ∧ t.2.1 = nI (ct (fun j => ltr (B (s + j))) l))
      (by
        intro sg hinv
        obtain ⟨k, hk, e1, e2, e3⟩ := hinv
        unfold f_X10_typeAt_l23
        rw [e1, nI_add]
        by_cases hlt : k < l
        · rw [if_neg (nI_ge (show s + k < s + l by omega) (by omega))]
          obtain ⟨c1, c2⟩ := hB (s + k) (by omega)
          have mes : s + l - (nI (s + k) + 1).toNatClampNeg < s + l - (nI (s + k)).toNatClampNeg := by rw [nI_1, nI_clamp (by omega), nI_clamp (by omega)]; omega
          have fin : ∀ x y : Bool, dig (B (s + k)) = x → ltr (B (s + k)) = y → ∃ s', (some (Sum.inl (sg.1 + ob x, sg.2.1 + ob y, nI (s + k) + 1)) : Option ((Int32 × Int32 × Int32) ⊕ (Int32 × Int32 × Int32))) = some (Sum.inl s') ∧ (∃ k : Nat, k ≤ l ∧ s'.2.2 = nI (s + k) ∧ s'.1 = nI (ct (fun j => dig (B (s + j))) k) ∧ s'.2.1 = nI (ct (fun j => ltr (B (s + j))) k)) ∧ s + l - s'.2.2.toNatClampNeg < s + l - (nI (s + k)).toNatClampNeg := by
            intro x y hx hy
            refine ⟨_, rfl, ⟨k + 1, hlt, nI_1 (s + k), ?_, ?_⟩, mes⟩
            · show sg.1 + ob x = nI (ct _ k + if dig (B (s + k)) = true then 1 else 0)
              rw [e2, hx]
              cases x
              · show _ + (0 : Int32) = nI (_ + 0); rw [show (0 : Int32) = nI 0 from rfl, nI_add]
              · exact nI_1 _
            · show sg.2.1 + ob y = nI (ct _ k + if ltr (B (s + k)) = true then 1 else 0)
              rw [e3, hy]
              cases y
              · show _ + (0 : Int32) = nI (_ + 0); rw [show (0 : Int32) = nI 0 from rfl, nI_add]
              · exact nI_1 _
          rw [digit_C (by omega) c1 c2]
          simp only [bs]
          unfold f_X10_typeAt_b46 f_X10_typeAt_b64
          rw [letter_C (by omega) c1 c2]
          simp only [bs]
          refine Or.inl ?_
          cases hd : dig (B (s + k)) with
          | true =>
            rw [ob_1, if_neg (show ¬ (1 : Int32) = 0 by decide)]
            cases hy : ltr (B (s + k)) with
            | true => rw [ob_1, if_neg (show ¬ (1 : Int32) = 0 by decide)]; exact fin true true hd hy
            | false => rw [ob_0, if_pos rfl]; exact fin true false hd hy
          | false =>
            rw [ob_0, if_pos rfl]
            cases hy : ltr (B (s + k)) with
            | true => rw [ob_1, if_neg (show ¬ (1 : Int32) = 0 by decide)]; exact fin false true hd hy
            | false => rw [ob_0, if_pos rfl]; exact fin false false hd hy
        · obtain rfl : k = l := by omega
          rw [if_pos (nI_le (Nat.le_refl _) (by omega))]
          exact Or.inr ⟨_, rfl, e2, e3⟩)
      gFU (0, 0, nI s) ⟨0, by omega, rfl, nI_0.symm, nI_0.symm⟩ (by show s + l - (nI s).toNatClampNeg < 100000; omega)
    rw [ht]; simp only [bs]
    have d1 := ct_le (fun j => dig (B (s + j))) l
    have d2 := ct_le (fun j => ltr (B (s + j))) l
    have r87 : f_X10_typeAt_b87 a (nI s) (nI l) t.2.1 = some (if (bts B s l).all ltr = true ∧ (bts B s l).length ≤ 8 then kwO (bts B s l) else 12) := by
      unfold f_X10_typeAt_b87 f_X10_typeAt_b106
      rw [hp2, bts_len]
      by_cases ha : (bts B s l).all ltr = true
      · rw [if_pos (by rw [(ct_all l).mpr (all_iff.mp ha)])]
        by_cases h8 : l ≤ 8
        · rw [show (8 : Int32) = nI 8 from rfl, if_neg (nI_nlt (b := l) (a := 8) h8 (by omega)), wordAt_C hn hB hs hl, if_pos ⟨ha, h8⟩]; rfl
        · rw [show (8 : Int32) = nI 8 from rfl, if_pos (nI_lt (a := 8) (b := l) (by omega) (by omega)), if_neg (fun z => h8 z.2)]
      · rw [if_neg (fun z => ha (all_iff.mpr ((ct_all l).mp ((nI_eq (by omega) (by omega)).mp z)))), if_neg (fun z => ha z.1)]
    rw [r87, hp1]
    by_cases ha : (bts B s l).all dig = true
    · rw [if_pos (by rw [(ct_all l).mpr (all_iff.mp ha)])]
      by_cases h4 : l ≤ 4
      · have h4' : ¬ (4 : Int32) < nI l := nI_nlt (b := l) (a := 4) h4 (by omega)
        rw [if_neg h4', if_pos ⟨ha, by rw [bts_len]; exact h4⟩]
      · have h4' : (4 : Int32) < nI l := nI_lt (a := 4) (b := l) (by omega) (by omega)
        rw [if_pos h4', if_neg (show ¬ ((bts B s l).all dig = true ∧ (bts B s l).length ≤ 4) from fun z => h4 (by have := z.2; rw [bts_len] at this; exact this))]
    · rw [if_neg (fun z => ha (all_iff.mpr ((ct_all l).mp ((nI_eq (by omega) (by omega)).mp z)))), if_neg (show ¬ ((bts B s l).all dig = true ∧ (bts B s l).length ≤ 4) from fun z => ha z.1)]
