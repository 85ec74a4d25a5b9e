/-! the reference goes from token to token -/
def tyT (B : Nat → Nat) (L : List (Nat × Nat)) (i : Nat) : Nat := match L[i]? with
  | some x => tyOf (bts B x.1 x.2)
  | none => 11
def stT (n : Nat) (L : List (Nat × Nat)) (i : Nat) : Nat := match L[i]? with
  | some x => x.1
  | none => lim n
def btT (B : Nat → Nat) (L : List (Nat × Nat)) (i : Nat) : List Nat := match L[i]? with
  | some x => bts B x.1 x.2
  | none => []
def kT (n ty : Nat) : Nat := if ty = 11 then (if 400 < n then 1 else 0) else kR ty
def refAt (B : Nat → Nat) (n : Nat) (L : List (Nat × Nat)) (i : Nat) (to fr kd nu : Int32) (nm : Int64) : Prop :=
  fr = nI (stT n L i) ∧ kd = nI (kT n (tyT B L i)) ∧ (tyT B L i ≤ 8 → nm.toInt = nmN (btT B L i)) ∧ (tyT B L i = 9 → nu = nI (numV (btT B L i))) ∧ (i < L.length → to = nI (tP L (i + 1)))
theorem ty_n11 (l : List Nat) : tyOf l ≠ 11 := by
  unfold tyOf
  have := kwO_le l
  repeat' split
  all_goals omega
theorem tP_le {B : Nat → Nat} {n : Nat} {L : List (Nat × Nat)} (h : tkE B n L) : ∀ i, i ≤ L.length → tP L i ≤ n := by
  intro i hi
  cases i with
  | zero => exact Nat.zero_le _
  | succ i =>
    have hg : L[i]? = some (L[i]'(by omega)) := List.getElem?_eq_getElem (by omega)
    show eOf L[i]? ≤ n
    rw [hg]
    exact (h i _ _ hg).2.2.1
theorem aln_of {v : Nat} (h : aln v = false) : ltr v = false ∧ dig v = false := by
  unfold aln at h
  rwa [Bool.or_eq_false_iff] at h
theorem go_R {a : Nat → Int32} {B : Nat → Nat} {n : Nat} (hn : n ≤ 440) (hB : BT a n B) {L : List (Nat × Nat)} (hL : TKS B n L) {i : Nat} (hi : i ≤ L.length) (fr kd nu : Int32) (nm : Int64) :
    ∃ q, f_X12_go (nI n) (nI (tP L i)) fr kd nu nm a = some q ∧ refAt B n L i q.1 q.2.1 q.2.2.1 q.2.2.2.1 q.2.2.2.2 := by
  obtain ⟨hE, hLl, hEnd⟩ := hL
  obtain ⟨l1, l2⟩ := lim_le n
  obtain ⟨s, hs, es⟩ := blanks_R hn hB (tP_le hE i hi)
  unfold f_X12_go
  rw [es]; simp only [bs]
  by_cases hlt : i < L.length
  · obtain ⟨⟨s', l⟩, hx⟩ : ∃ x, L[i]? = some x := ⟨_, List.getElem?_eq_getElem hlt⟩
    obtain ⟨t1, t2, t3, r', hr', hl⟩ := hE i s' l hx
    obtain rfl : s = s' := isSk_one hs t1
    have eT : tyT B L i = tyOf (bts B s l) := by unfold tyT; rw [hx]
    have eS : stT n L i = s := by unfold stT; rw [hx]
    have eB : btT B L i = bts B s l := by unfold btT; rw [hx]
    have eP : tP L (i + 1) = s + l := by show eOf L[i]? = _; rw [hx]; rfl
    have eK : kT n (tyT B L i) = kR (tyOf (bts B s l)) := by unfold kT; rw [eT, if_neg (ty_n11 _)]
    have hsn : s < n := by omega
    have main : ∃ q, f_X12_go_b45 (nI n) (nI s) (nI s) kd nu nm a = some q ∧ refAt B n L i q.1 q.2.1 q.2.2.1 q.2.2.2.1 q.2.2.2.2 := by
      obtain ⟨b1, b2⟩ := hB s hsn
      have hw : aln (B s) = true → ∃ q, f_X12_go_b86 (nI n) (nI s) (nI s) kd nu nm a = some q ∧ refAt B n L i q.1 q.2.1 q.2.2.1 q.2.2.2.1 q.2.2.2.2 := by
        intro ha
        obtain ⟨q, r, hr, hr1, eq, q1, q2, q3, q4⟩ := word_R hn hB hsn ha kd nu nm
        obtain rfl : r = r' := isRn_one hr hr'
        rw [if_neg (by omega)] at hl
        subst hl
        unfold f_X12_go_b86
        rw [eq]; simp only [bs]
        refine ⟨_, rfl, ?_, ?_, ?_, ?_, ?_⟩
        · rw [eS]
        · rw [eK]; exact q2
        · rw [eT, eB]; exact q3
        · rw [eT, eB]; exact q4
        · intro _; rw [eP]; exact q1
      unfold f_X12_go_b45
      rw [if_pos (nI_lt hsn (by omega)), gIn_of (vp_in_nI (by omega) (by omega)), nI_clamp (by omega), b2, letter_R b1, digit_R b1]
      simp only [bs]
      cases ha : aln (B s) with
      | true =>
        cases h1 : ltr (B s) with
        | true => rw [ob_1, if_neg (show ¬ (1 : Int32) = 0 by decide)]; exact hw ha
        | false =>
          have h2 : dig (B s) = true := by unfold aln at ha; rw [h1] at ha; exact ha
          rw [ob_0, if_pos rfl, h2, ob_1, if_neg (show ¬ (1 : Int32) = 0 by decide)]; exact hw ha
      | false =>
        obtain ⟨h1, h2⟩ := aln_of ha
        rw [h1, h2, ob_0, if_pos rfl, if_pos rfl]
        have hr0 : r' = 0 := Nat.eq_zero_of_not_pos (fun z => by
          have := hr'.2.1 0 z
          rw [Nat.add_zero, ha] at this
          exact absurd this (by decide))
        rw [if_pos hr0] at hl
        subst hl
        have e1 : bts B s 1 = [B s] := by simp [bts]
        unfold f_X12_go_b103
        by_cases h59 : B s = 59
        · rw [if_pos (by rw [h59]; rfl), nI_1]
          have ety : tyOf (bts B s 1) = 10 := by rw [e1, h59]; rfl
          refine ⟨_, rfl, ?_, ?_, ?_, ?_, ?_⟩
          · rw [eS]
          · rw [eK, ety]; rfl
          · rw [eT, ety]; intro z; omega
          · rw [eT, ety]; intro z; omega
          · intro _; rw [eP]
        · have h59' : ¬ nI (B s) = (59 : Int32) := fun z => h59 ((nI_eq (by omega) (by omega)).mp z)
          rw [if_neg h59', nI_1]
          have ety : tyOf (bts B s 1) = 12 := by
            rw [e1]
            unfold tyOf
            rw [if_neg (by intro z; exact h59 (List.cons.inj z).1), if_neg (by simp [h2]), if_neg (by simp [h1])]
          refine ⟨_, rfl, ?_, ?_, ?_, ?_, ?_⟩
          · rw [eS]
          · rw [eK, ety]; rfl
          · rw [eT, ety]; intro z; omega
          · rw [eT, ety]; intro z; omega
          · intro _; rw [eP]
    by_cases h4 : n ≤ 400
    · rw [if_pos (show nI n ≤ (400 : Int32) from nI_le (a := n) (b := 400) h4 (by omega))]; exact main
    · rw [if_neg (show ¬ nI n ≤ (400 : Int32) from nI_ge (a := 400) (b := n) (by omega) (by omega)), if_pos (show nI s < (400 : Int32) from nI_lt (a := s) (b := 400) (by omega) (by omega))]; exact main
  · obtain rfl : i = L.length := by omega
    obtain ⟨s', hs', hl'⟩ := hEnd
    obtain rfl : s = s' := isSk_one hs hs'
    have hx : L[L.length]? = none := List.getElem?_eq_none (Nat.le_refl _)
    have eT : tyT B L L.length = 11 := by unfold tyT; rw [hx]
    have eS : stT n L L.length = lim n := by unfold stT; rw [hx]
    have hsn := hs.2.1
    by_cases h4 : n ≤ 400
    · have elim : lim n = n := by unfold lim; rw [if_neg (by omega)]
      obtain rfl : s = n := by omega
      rw [if_pos (show nI s ≤ (400 : Int32) from nI_le (a := s) (b := 400) h4 (by omega))]
      unfold f_X12_go_b45
      rw [if_neg (nI_nlt (Nat.le_refl _) (by omega))]
      refine ⟨_, rfl, ?_, ?_, ?_, ?_, ?_⟩
      · rw [eS, elim]
      · rw [eT]; unfold kT; rw [if_pos rfl, if_neg (by omega)]; rfl
      · rw [eT]; intro z; omega
      · rw [eT]; intro z; omega
      · intro z; omega
    · have elim : lim n = 400 := by unfold lim; rw [if_pos (by omega)]
      rw [if_neg (show ¬ nI n ≤ (400 : Int32) from nI_ge (a := 400) (b := n) (by omega) (by omega)), if_neg (show ¬ nI s < (400 : Int32) from nI_nlt (a := s) (b := 400) (by omega) (by omega))]
      refine ⟨_, rfl, ?_, ?_, ?_, ?_, ?_⟩
      · rw [eS, elim]; rfl
      · rw [eT]; unfold kT; rw [if_pos rfl, if_pos (by omega)]; rfl
      · rw [eT]; intro z; omega
      · rw [eT]; intro z; omega
      · intro z; omega
