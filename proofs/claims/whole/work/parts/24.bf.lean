/-! loops: an invariant and a measure -/
section LR
variable {σ ρ : Type}
theorem lp_rule {body : σ → Option (σ ⊕ ρ)} (Inv : σ → Prop) (μ : σ → Nat) (Post : ρ → Prop) (step : ∀ s, Inv s → (∃ s', body s = some (.inl s') ∧ Inv s' ∧ μ s' < μ s) ∨ (∃ r, body s = some (.inr r) ∧ Post r)) : ∀ (n : Nat) (s : σ), Inv s → μ s < n → ∃ r, lp body n s = some r ∧ Post r := by
  intro n
  induction n with
  | zero => intro s _ h; exact absurd h (Nat.not_lt_zero _)
  | succ n ih =>
    intro s hi hm
    rcases step s hi with ⟨s', h1, h2, h3⟩ | ⟨r, h1, h2⟩
    · obtain ⟨r, q1, q2⟩ := ih s' h2 (by omega)
      exact ⟨r, by unfold lp; rw [h1]; exact q1, q2⟩
    · exact ⟨r, by unfold lp; rw [h1], h2⟩
end LR
theorem i_add {a b : Int32} (h1 : -2147483648 ≤ a.toInt + b.toInt) (h2 : a.toInt + b.toInt < 2147483648) : (a + b).toInt = a.toInt + b.toInt := by
  rw [Int32.toInt_add]
  exact Int.bmod_eq_of_le (by omega) (by omega)
theorem i_sub {a b : Int32} (h1 : -2147483648 ≤ a.toInt - b.toInt) (h2 : a.toInt - b.toInt < 2147483648) : (a - b).toInt = a.toInt - b.toInt := by
  rw [Int32.toInt_sub]
  exact Int.bmod_eq_of_le (by omega) (by omega)
theorem i_neg {a : Int32} (h1 : -2147483648 < a.toInt) : (-a).toInt = -a.toInt := by
  have h2 := Int32.toInt_lt a
  rw [Int32.toInt_neg]
  exact Int.bmod_eq_of_le (by omega) (by omega)
theorem i_lt {a b : Int32} : a < b ↔ a.toInt < b.toInt := Int32.lt_iff_toInt_lt
theorem i_le {a b : Int32} : a ≤ b ↔ a.toInt ≤ b.toInt := Int32.le_iff_toInt_le
theorem i_eq {a b : Int32} : a = b ↔ a.toInt = b.toInt := Int32.toInt_inj.symm
theorem upd_s {f : Nat → Int32} {k : Nat} {x : Int32} : upd f k x k = x := if_pos rfl
theorem upd_n {f : Nat → Int32} {k j : Nat} {x : Int32} (h : j ≠ k) : upd f k x j = f j := if_neg h
/-! the class's links: link i says day (hd i) less day (tl i) is at least (gp i) -/
section BF
def lkOk (n : Nat) (ts hs gs : Nat → Int32) (tl hd : Nat → Nat) (gp : Nat → Int) (N : Nat) : Prop :=
  ∀ i, i < n → ts i = nI (tl i) ∧ hs i = nI (hd i) ∧ (gs i).toInt = gp i ∧ tl i < N ∧ hd i < N ∧ -9999 ≤ gp i ∧ gp i ≤ 9999
def unr : Int := -1000000000
/-- a value that is not reached, or within B -/
def lsB (B : Int) (ls : Nat → Int32) (N : Nat) : Prop := ∀ v, v < N → (ls v).toInt = unr ∨ (-B ≤ (ls v).toInt ∧ (ls v).toInt ≤ B)
theorem lsB_mono {B C : Int} {ls : Nat → Int32} {N : Nat} (h : lsB B ls N) (hBC : B ≤ C) : lsB C ls N := by
  intro v hv
  rcases h v hv with h | ⟨h, h'⟩
  · exact Or.inl h
  · exact Or.inr ⟨by omega, by omega⟩
/-- U is above all that is reached -/
def lsU (U : Nat → Int) (ls : Nat → Int32) (N : Nat) : Prop := ∀ v, v < N → (ls v).toInt = unr ∨ (ls v).toInt ≤ U v
def lkF (n : Nat) (tl hd : Nat → Nat) (gp : Nat → Int) (U : Nat → Int) : Prop := ∀ i, i < n → U (tl i) + gp i ≤ U (hd i)
/-- what one round of pushing does -/
def pushed (n : Nat) (tl hd : Nat → Nat) (gp : Nat → Int) (N : Nat) (B : Int) (l0 : Nat → Int32) (r : Int32) (l1 : Nat → Int32) : Prop :=
  (r = 0 ∨ r = 1) ∧ lsB (B + 9999 * n) l1 N ∧ (∀ v, (l0 v).toInt ≤ (l1 v).toInt) ∧ (∀ v, N ≤ v → l1 v = l0 v) ∧
  (∀ U : Nat → Int, lkF n tl hd gp U → lsU U l0 N → lsU U l1 N) ∧
  (∀ i, i < n → (l0 (tl i)).toInt ≠ unr → (l0 (tl i)).toInt + gp i ≤ (l1 (hd i)).toInt) ∧
  (r = 0 → l1 = l0) ∧ (r = 1 → ∃ v, v < N ∧ (l0 v).toInt < (l1 v).toInt)
theorem push_all {n N : Nat} {ts hs gs : Nat → Int32} {tl hd : Nat → Nat} {gp : Nat → Int} (hk : lkOk n ts hs gs tl hd gp N) (hn : n ≤ 348) (hN : N ≤ 41) {B : Int} (hB0 : 0 ≤ B) (hB : B ≤ 200000000) {l0 : Nat → Int32} (h0 : lsB B l0 N) :
    ∃ q, f_X4_pushAll (nI n) ts hs gs l0 = some q ∧ pushed n tl hd gp N B l0 q.1 q.2 := by
  -- the loop: state (pushed, i, least)
  have hloop := lp_rule (body := f_X4_pushAll_l4 (nI n) ts hs gs)
    (fun sg => ∃ i : Nat, i ≤ n ∧ sg.2.1 = nI i ∧ (sg.1 = 0 ∨ sg.1 = 1) ∧ lsB (B + 9999 * i) sg.2.2 N ∧ (∀ v, (l0 v).toInt ≤ (sg.2.2 v).toInt) ∧ (∀ v, N ≤ v → sg.2.2 v = l0 v) ∧
      (∀ U : Nat → Int, lkF n tl hd gp U → lsU U l0 N → lsU U sg.2.2 N) ∧
      (∀ j, j < i → (l0 (tl j)).toInt ≠ unr → (l0 (tl j)).toInt + gp j ≤ (sg.2.2 (hd j)).toInt) ∧
      (sg.1 = 0 → sg.2.2 = l0) ∧ (sg.1 = 1 → ∃ v, v < N ∧ (l0 v).toInt < (sg.2.2 v).toInt))
    (fun sg => n - sg.2.1.toNatClampNeg)
    (fun t => pushed n tl hd gp N B l0 t.1 t.2.2)
    (by
      intro sg hinv
      obtain ⟨i, hi, ei, hp, hb, hm, ho, hU, he, hz, hs⟩ := hinv
      unfold f_X4_pushAll_l4
      rw [ei]
      by_cases hlt : i < n
      · have hc : ¬ nI n ≤ nI i := nI_ge hlt (by omega)
        rw [if_neg hc]
        have hin : vp_in (nI i) 348 := vp_in_nI (by omega) (by omega)
        obtain ⟨e1, e2, e3, e4, e5, e6, e7⟩ := hk i hlt
        have cl : (nI i).toNatClampNeg = i := nI_clamp (by omega)
        have hin1 : vp_in (nI (tl i)) 41 := vp_in_nI (by omega) (by omega)
        have hin2 : vp_in (nI (hd i)) 41 := vp_in_nI (by omega) (by omega)
        have cl1 : (nI (tl i)).toNatClampNeg = tl i := nI_clamp (by omega)
        have cl2 : (nI (hd i)).toNatClampNeg = hd i := nI_clamp (by omega)
        have mes : n - (nI i + 1).toNatClampNeg < n - i := by rw [nI_1, nI_clamp (by omega)]; omega
        simp only [cl, e1, e2, cl1, cl2, gIn_of hin, gIn_of hin1, gIn_of hin2]
        by_cases hu : sg.2.2 (tl i) = (-1000000000)
        · rw [if_pos hu]
          have hu2 : (sg.2.2 (tl i)).toInt = unr := by rw [hu]; rfl
          refine Or.inl ⟨_, rfl, ⟨i + 1, hlt, by rw [← nI_1], hp, lsB_mono hb (by omega), hm, ho, hU, ?_, hz, hs⟩, mes⟩
          · intro j hj hne
            rcases Nat.lt_or_ge j i with q | q
            · exact he j q hne
            · obtain rfl : j = i := by omega
              exact absurd hu2 (by
                have h1 := hm (tl j)
                rcases h0 (tl j) e4 with z | ⟨z, _⟩
                · exact absurd z hne
                · unfold unr; omega)
        · rw [if_neg hu]
          have hu2 : (sg.2.2 (tl i)).toInt ≠ unr := fun h => hu (i_eq.mpr (by rw [h]; rfl))
          have hbt : -(B + 9999 * i) ≤ (sg.2.2 (tl i)).toInt ∧ (sg.2.2 (tl i)).toInt ≤ B + 9999 * i := by
            rcases hb (tl i) e4 with h | h
            · exact absurd h hu2
            · exact h
          have hsum : (sg.2.2 (tl i) + gs i).toInt = (sg.2.2 (tl i)).toInt + gp i := by
            rw [i_add (by omega) (by omega), e3]
          by_cases hle : sg.2.2 (tl i) + gs i ≤ sg.2.2 (hd i)
          · rw [if_pos hle]
            have hle2 := i_le.mp hle
            rw [hsum] at hle2
            refine Or.inl ⟨_, rfl, ⟨i + 1, hlt, by rw [← nI_1], hp, lsB_mono hb (by omega), hm, ho, hU, ?_, hz, hs⟩, mes⟩
            · intro j hj hne
              rcases Nat.lt_or_ge j i with q | q
              · exact he j q hne
              · obtain rfl : j = i := by omega
                show (l0 (tl j)).toInt + gp j ≤ (sg.2.2 (hd j)).toInt
                have := hm (tl j)
                omega
          · rw [if_neg hle]
            have hle2 : (sg.2.2 (hd i)).toInt < (sg.2.2 (tl i)).toInt + gp i := by
              rw [← hsum]
              exact Int.not_le.mp (fun h => hle (i_le.mpr h))
            have key : ∀ v, (sg.2.2 v).toInt ≤ (upd sg.2.2 (hd i) (sg.2.2 (tl i) + gs i) v).toInt := by
              intro v
              by_cases hv : v = hd i
              · subst hv; rw [upd_s, hsum]; omega
              · rw [upd_n hv]; exact Int.le_refl _
            refine Or.inl ⟨_, rfl, ⟨i + 1, hlt, by rw [← nI_1], Or.inr rfl, ?_, fun v => Int.le_trans (hm v) (key v), ?_, ?_, ?_, fun h => absurd h (show ¬ (1 : Int32) = 0 by decide), fun _ => ⟨hd i, e5, ?_⟩⟩, mes⟩
            · intro v hv
              show (upd sg.2.2 (hd i) (sg.2.2 (tl i) + gs i) v).toInt = unr ∨ _
              by_cases hvd : v = hd i
              · subst hvd
                show (upd sg.2.2 (hd i) (sg.2.2 (tl i) + gs i) (hd i)).toInt = unr ∨ (-(B + 9999 * ((i + 1 : Nat) : Int)) ≤ (upd sg.2.2 (hd i) (sg.2.2 (tl i) + gs i) (hd i)).toInt ∧ (upd sg.2.2 (hd i) (sg.2.2 (tl i) + gs i) (hd i)).toInt ≤ B + 9999 * ((i + 1 : Nat) : Int))
                rw [upd_s, hsum]
                exact Or.inr ⟨by omega, by omega⟩
              · show (upd sg.2.2 (hd i) (sg.2.2 (tl i) + gs i) v).toInt = unr ∨ (-(B + 9999 * ((i + 1 : Nat) : Int)) ≤ (upd sg.2.2 (hd i) (sg.2.2 (tl i) + gs i) v).toInt ∧ (upd sg.2.2 (hd i) (sg.2.2 (tl i) + gs i) v).toInt ≤ B + 9999 * ((i + 1 : Nat) : Int))
                rw [upd_n hvd]
                rcases hb v hv with h | ⟨h, h'⟩
                · exact Or.inl h
                · exact Or.inr ⟨by omega, by omega⟩
            · intro v hv
              show upd sg.2.2 (hd i) (sg.2.2 (tl i) + gs i) v = l0 v
              rw [upd_n (by omega)]
              exact ho v hv
            · intro U hF hl v hv
              show (upd sg.2.2 (hd i) (sg.2.2 (tl i) + gs i) v).toInt = unr ∨ (upd sg.2.2 (hd i) (sg.2.2 (tl i) + gs i) v).toInt ≤ U v
              by_cases hvd : v = hd i
              · subst hvd
                rw [upd_s, hsum]
                have h1 := hF i hlt
                rcases hU U hF hl (tl i) e4 with h | h
                · exact absurd h hu2
                · exact Or.inr (by omega)
              · rw [upd_n hvd]
                exact hU U hF hl v hv
            · intro j hj hne
              show (l0 (tl j)).toInt + gp j ≤ (upd sg.2.2 (hd i) (sg.2.2 (tl i) + gs i) (hd j)).toInt
              rcases Nat.lt_or_ge j i with q | q
              · exact Int.le_trans (he j q hne) (key (hd j))
              · obtain rfl : j = i := by omega
                rw [upd_s, hsum]
                have := hm (tl j)
                omega
            · show (l0 (hd i)).toInt < (upd sg.2.2 (hd i) (sg.2.2 (tl i) + gs i) (hd i)).toInt
              rw [upd_s, hsum]
              have := hm (hd i)
              omega
      · obtain rfl : i = n := by omega
        rw [if_pos (nI_le (Nat.le_refl i) (by omega))]
        exact Or.inr ⟨_, rfl, hp, hb, hm, ho, hU, he, hz, hs⟩)
    gFU (0, 0, l0) ⟨0, Nat.zero_le n, nI_0.symm, Or.inl rfl, lsB_mono h0 (by omega), fun v => Int.le_refl _, fun v _ => rfl, fun U _ h => h, fun j hj => absurd hj (Nat.not_lt_zero j), fun _ => rfl, fun h => absurd h (show ¬ (0 : Int32) = 1 by decide)⟩ (by show n - (0 : Int32).toNatClampNeg < 100000; omega)
  obtain ⟨t, ht, hp⟩ := hloop
  refine ⟨(t.1, t.2.2), ?_, hp⟩
  unfold f_X4_pushAll
  rw [ht]
  show gB t.1 (some (t.1, t.2.2)) = _
  rw [gB_of hp.1]
end BF
