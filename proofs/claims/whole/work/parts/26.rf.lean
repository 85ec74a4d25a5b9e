/-! the reference's bounds: bound i says day (hd i) less day (tl i) is at most -(gp i); its rounds are the class's, with the signs turned -/
def bdOk (n : Nat) (ah be mo : Nat → Int32) (tl hd : Nat → Nat) (gp : Nat → Int) (N : Nat) : Prop :=
  ∀ i, i < n → ah i = nI (tl i) ∧ be i = nI (hd i) ∧ (mo i).toInt = -gp i ∧ tl i < N ∧ hd i < N ∧ -9999 ≤ gp i ∧ gp i ≤ 9999
def urR : Int := -100000000
def ng (f : Nat → Int32) : Nat → Int := fun v => -(f v).toInt
def frB (B : Int) (ls : Nat → Int32) (N : Nat) : Prop := ∀ v, v < N → -B ≤ (ls v).toInt ∧ (ls v).toInt ≤ 100000000
theorem frB_mono {B C : Int} {ls : Nat → Int32} {N : Nat} (h : frB B ls N) (hBC : B ≤ C) : frB C ls N := fun v hv => ⟨by have := (h v hv).1; omega, (h v hv).2⟩
theorem pull_all {n N : Nat} {ah be mo : Nat → Int32} {tl hd : Nat → Nat} {gp : Nat → Int} (hk : bdOk n ah be mo tl hd gp N) (hn : n ≤ 400) (hN : N ≤ 41) {B : Int} (hB0 : 0 ≤ B) (hB : B ≤ 200000000) {l0 : Nat → Int32} (h0 : frB B l0 N) (mh u2 u3 : Int32) :
    ∃ t, lp (f_X12_goes_l57 mh (nI n) be ah mo u2 u3) gFU (0, 0, l0) = some t ∧ frB (B + 9999 * n) t.2.2 N ∧ rnd n tl hd gp N urR (ng l0) (ng t.2.2) (¬ t.1 = 0) ∧ (t.1 = 0 → t.2.2 = l0) := by
  have hloop := lp_rule (body := f_X12_goes_l57 mh (nI n) be ah mo u2 u3)
    (fun sg => ∃ i : Nat, i ≤ n ∧ sg.2.1 = nI i ∧ (sg.1 = 0 ∨ sg.1 = 1) ∧ frB (B + 9999 * i) sg.2.2 N ∧ (∀ v, (sg.2.2 v).toInt ≤ (l0 v).toInt) ∧
      (∀ U : Nat → Int, lkF n tl hd gp U → (∀ v, v < N → ng l0 v = urR ∨ ng l0 v ≤ U v) → ∀ v, v < N → ng sg.2.2 v = urR ∨ ng sg.2.2 v ≤ U v) ∧
      (∀ j, j < i → ng l0 (tl j) ≠ urR → ng l0 (tl j) + gp j ≤ ng sg.2.2 (hd j)) ∧
      (sg.1 = 0 → sg.2.2 = l0) ∧ (sg.1 = 1 → ∃ v, v < N ∧ ng l0 v < ng sg.2.2 v))
    (fun sg => n - sg.2.1.toNatClampNeg)
    (fun t => (t.1 = 0 ∨ t.1 = 1) ∧ frB (B + 9999 * n) t.2.2 N ∧ (∀ v, (t.2.2 v).toInt ≤ (l0 v).toInt) ∧
      (∀ U : Nat → Int, lkF n tl hd gp U → (∀ v, v < N → ng l0 v = urR ∨ ng l0 v ≤ U v) → ∀ v, v < N → ng t.2.2 v = urR ∨ ng t.2.2 v ≤ U v) ∧
      (∀ j, j < n → ng l0 (tl j) ≠ urR → ng l0 (tl j) + gp j ≤ ng t.2.2 (hd j)) ∧
      (t.1 = 0 → t.2.2 = l0) ∧ (t.1 = 1 → ∃ v, v < N ∧ ng l0 v < ng t.2.2 v))
    (by
      intro sg hinv
      obtain ⟨i, hi, ei, hp, hb, hm, hU, he, hz, hs⟩ := hinv
      unfold f_X12_goes_l57
      rw [ei]
      by_cases hlt : i < n
      · have hc : ¬ nI n ≤ nI i := nI_ge hlt (by omega)
        rw [if_neg hc]
        have hin : vp_in (nI i) 400 := vp_in_nI (by omega) (by omega)
        obtain ⟨e1, e2, e3, e4, e5, e6, e7⟩ := hk i hlt
        have cl : (nI i).toNatClampNeg = i := nI_clamp (by omega)
        have hin1 : vp_in (nI (tl i)) 41 := vp_in_nI (by omega) (by omega)
        have hin2 : vp_in (nI (hd i)) 41 := vp_in_nI (by omega) (by omega)
        have cl1 : (nI (tl i)).toNatClampNeg = tl i := nI_clamp (by omega)
        have cl2 : (nI (hd i)).toNatClampNeg = hd i := nI_clamp (by omega)
        have mes : n - (nI i + 1).toNatClampNeg < n - i := by rw [nI_1, nI_clamp (by omega)]; omega
        simp only [cl, e1, e2, cl1, cl2, gIn_of hin, gIn_of hin1, gIn_of hin2]
        by_cases hu : sg.2.2 (tl i) = 100000000
        · rw [if_pos hu]
          have hu2 : (sg.2.2 (tl i)).toInt = 100000000 := by rw [hu]; rfl
          refine Or.inl ⟨_, rfl, ⟨i + 1, hlt, by rw [← nI_1], hp, frB_mono hb (by omega), hm, hU, ?_, hz, hs⟩, mes⟩
          intro j hj hne
          rcases Nat.lt_or_ge j i with q | q
          · exact he j q hne
          · obtain rfl : j = i := by omega
            exact absurd hne (fun z => z (by
              show -(l0 (tl j)).toInt = urR
              have h1 := hm (tl j)
              have h2 := (h0 (tl j) e4).2
              unfold urR
              omega))
        · rw [if_neg hu]
          have hu2 : (sg.2.2 (tl i)).toInt ≠ 100000000 := fun h => hu (i_eq.mpr (by rw [h]; rfl))
          have hbt := hb (tl i) e4
          have hsum : (sg.2.2 (tl i) + mo i).toInt = (sg.2.2 (tl i)).toInt - gp i := by
            rw [i_add (by omega) (by omega), e3]; omega
          by_cases hlt2 : sg.2.2 (tl i) + mo i < sg.2.2 (hd i)
          · rw [if_pos hlt2]
            have hlt3 : (sg.2.2 (tl i)).toInt - gp i < (sg.2.2 (hd i)).toInt := by rw [← hsum]; exact i_lt.mp hlt2
            have key : ∀ v, (upd sg.2.2 (hd i) (sg.2.2 (tl i) + mo i) v).toInt ≤ (sg.2.2 v).toInt := by
              intro v
              by_cases hv : v = hd i
              · subst hv; rw [upd_s, hsum]; omega
              · rw [upd_n hv]; exact Int.le_refl _
            refine Or.inl ⟨_, rfl, ⟨i + 1, hlt, by rw [← nI_1], Or.inr rfl, ?_, fun v => Int.le_trans (key v) (hm v), ?_, ?_, fun h => absurd h (show ¬ (1 : Int32) = 0 by decide), fun _ => ⟨hd i, e5, ?_⟩⟩, mes⟩
            · intro v hv
              show -(B + 9999 * ((i + 1 : Nat) : Int)) ≤ (upd sg.2.2 (hd i) (sg.2.2 (tl i) + mo i) v).toInt ∧ (upd sg.2.2 (hd i) (sg.2.2 (tl i) + mo i) v).toInt ≤ 100000000
              have hbv := hb v hv
              have hkv := key v
              by_cases hvd : v = hd i
              · subst hvd; rw [upd_s, hsum] at *; exact ⟨by omega, by omega⟩
              · rw [upd_n hvd] at *; exact ⟨by omega, by omega⟩
            · intro U hF hl v hv
              show -(upd sg.2.2 (hd i) (sg.2.2 (tl i) + mo i) v).toInt = urR ∨ -(upd sg.2.2 (hd i) (sg.2.2 (tl i) + mo i) v).toInt ≤ U v
              by_cases hvd : v = hd i
              · subst hvd
                rw [upd_s, hsum]
                have h1 := hF i hlt
                have h2 := hU U hF hl (tl i) e4
                unfold ng urR at h2
                rcases h2 with h | h
                · exact absurd h (by omega)
                · exact Or.inr (by omega)
              · rw [upd_n hvd]
                exact hU U hF hl v hv
            · intro j hj hne
              show -(l0 (tl j)).toInt + gp j ≤ -(upd sg.2.2 (hd i) (sg.2.2 (tl i) + mo i) (hd j)).toInt
              rcases Nat.lt_or_ge j i with q | q
              · have h1 := he j q hne
                have h2 := key (hd j)
                unfold ng at h1
                omega
              · obtain rfl : j = i := by omega
                rw [upd_s, hsum]
                have := hm (tl j)
                omega
            · show -(l0 (hd i)).toInt < -(upd sg.2.2 (hd i) (sg.2.2 (tl i) + mo i) (hd i)).toInt
              rw [upd_s, hsum]
              have := hm (hd i)
              omega
          · rw [if_neg hlt2]
            have hlt3 : (sg.2.2 (hd i)).toInt ≤ (sg.2.2 (tl i)).toInt - gp i := by rw [← hsum]; exact Int.not_lt.mp (fun h => hlt2 (i_lt.mpr h))
            refine Or.inl ⟨_, rfl, ⟨i + 1, hlt, by rw [← nI_1], hp, frB_mono hb (by omega), hm, hU, ?_, hz, hs⟩, mes⟩
            intro j hj hne
            rcases Nat.lt_or_ge j i with q | q
            · exact he j q hne
            · obtain rfl : j = i := by omega
              show -(l0 (tl j)).toInt + gp j ≤ -(sg.2.2 (hd j)).toInt
              have := hm (tl j)
              omega
      · obtain rfl : i = n := by omega
        rw [if_pos (nI_le (Nat.le_refl i) (by omega))]
        exact Or.inr ⟨_, rfl, hp, hb, hm, hU, he, hz, hs⟩)
    gFU (0, 0, l0) ⟨0, Nat.zero_le n, nI_0.symm, Or.inl rfl, frB_mono h0 (by omega), fun v => Int.le_refl _, fun U _ h => h, fun j hj => absurd hj (Nat.not_lt_zero j), fun _ => rfl, fun h => absurd h (show ¬ (0 : Int32) = 1 by decide)⟩ (by show n - (0 : Int32).toNatClampNeg < 100000; omega)
  obtain ⟨t, ht, p1, p2, p3, p4, p5, p6, p7⟩ := hloop
  refine ⟨t, ht, p2, ⟨fun v _ => by have := p3 v; unfold ng; omega, p4, p5, fun hc v _ => by rw [p6 (Classical.byContradiction hc)], fun hc => ?_⟩, p6⟩
  rcases p1 with q | q
  · exact absurd q hc
  · exact p7 q
/-- the start: 0 at the anchored days, FAR at the others -/
theorem goes_init {N : Nat} (hN : N ≤ 41) {mh mb : Int32} {be ah mo : Nat → Int32} (p1 : Int32) (l0 : Nat → Int32) :
    ∃ q, lp (f_X12_goes_l11 mh mb be ah mo p1 (nI N)) gFU (0, l0) = some q ∧ ∀ v, v < N → q.2 v = if p1 = -1 ∨ nI v = p1 then 0 else 100000000 := by
  refine lp_rule (body := f_X12_goes_l11 mh mb be ah mo p1 (nI N)) (fun sg => ∃ i : Nat, i ≤ N ∧ sg.1 = nI i ∧ ∀ v, v < i → sg.2 v = if p1 = -1 ∨ nI v = p1 then 0 else 100000000) (fun sg => N - sg.1.toNatClampNeg) (fun q => ∀ v, v < N → q.2 v = if p1 = -1 ∨ nI v = p1 then 0 else 100000000) ?_ gFU (0, l0) ⟨0, Nat.zero_le N, nI_0.symm, fun v hv => absurd hv (Nat.not_lt_zero v)⟩ (by show N - (0 : Int32).toNatClampNeg < 100000; omega)
  intro sg hinv
  obtain ⟨i, hi, ei, hv⟩ := hinv
  unfold f_X12_goes_l11
  rw [ei]
  by_cases hlt : i < N
  · have cl : (nI i).toNatClampNeg = i := nI_clamp (by omega)
    have hin : vp_in (nI i) 41 := vp_in_nI (by omega) (by omega)
    rw [if_neg (nI_ge hlt (by omega))]
    have fin : ∀ x : Int32, (x = if p1 = -1 ∨ nI i = p1 then 0 else 100000000) → (∃ s', f_X12_goes_b37 mh mb be ah mo sg.2 p1 (nI N) (nI i) x (nI i) = some (.inl s') ∧ (∃ i : Nat, i ≤ N ∧ s'.1 = nI i ∧ ∀ v, v < i → s'.2 v = if p1 = -1 ∨ nI v = p1 then 0 else 100000000) ∧ N - s'.1.toNatClampNeg < N - sg.1.toNatClampNeg) := by
      intro x hx
      unfold f_X12_goes_b37
      rw [gIn_of hin, cl]
      refine ⟨_, rfl, ⟨i + 1, hlt, by rw [← nI_1], fun v hv2 => ?_⟩, ?_⟩
      · show upd sg.2 i x v = _
        by_cases h : v = i
        · subst h; rw [upd_s]; exact hx
        · rw [upd_n h]; exact hv v (by omega)
      · show N - (nI i + 1).toNatClampNeg < N - sg.1.toNatClampNeg
        rw [ei, nI_1, nI_clamp (by omega), cl]; omega
    rw [ei] at fin
    by_cases h1 : p1 = -1
    · rw [if_pos h1]
      exact Or.inl (fin 0 (by rw [if_pos (Or.inl h1)]))
    · rw [if_neg h1]
      by_cases h2 : nI i = p1
      · rw [if_pos h2]
        exact Or.inl (fin 0 (by rw [if_pos (Or.inr h2)]))
      · rw [if_neg h2]
        exact Or.inl (fin 100000000 (by rw [if_neg (fun z => z.elim h1 h2)]))
  · obtain rfl : i = N := by omega
    rw [if_pos (nI_le (Nat.le_refl i) (by omega))]
    exact Or.inr ⟨_, rfl, hv⟩
