/-! counting -/
def ct (p : Nat → Bool) : Nat → Nat
  | 0 => 0
  | n + 1 => ct p n + if p n then 1 else 0
theorem ct_le (p : Nat → Bool) : ∀ n, ct p n ≤ n
  | 0 => Nat.le_refl 0
  | n + 1 => by have := ct_le p n; unfold ct; split <;> omega
theorem ct_mono {p q : Nat → Bool} : ∀ n, (∀ k, k < n → p k = true → q k = true) → ct p n ≤ ct q n
  | 0, _ => Nat.le_refl 0
  | n + 1, h => by
    have h1 := ct_mono n (fun k hk => h k (by omega))
    unfold ct
    by_cases hp : p n = true
    · rw [if_pos hp, if_pos (h n (by omega) hp)]; omega
    · rw [if_neg hp]; split <;> omega
theorem ct_lt {p q : Nat → Bool} : ∀ n, (∀ k, k < n → p k = true → q k = true) → (∃ k, k < n ∧ ¬ p k = true ∧ q k = true) → ct p n < ct q n
  | 0, _, h => by obtain ⟨k, hk, _⟩ := h; omega
  | n + 1, h, he => by
    obtain ⟨k, hk, h1, h2⟩ := he
    have hm := ct_mono n (fun k hk => h k (by omega))
    unfold ct
    by_cases hkn : k = n
    · subst hkn
      rw [if_neg h1, if_pos h2]; omega
    · have hl := ct_lt n (fun k hk => h k (by omega)) ⟨k, by omega, h1, h2⟩
      by_cases hp : p n = true
      · rw [if_pos hp, if_pos (h n (by omega) hp)]; omega
      · rw [if_neg hp]; split <;> omega
theorem ct_pos {p : Nat → Bool} : ∀ n, (∃ k, k < n ∧ p k = true) → 1 ≤ ct p n
  | 0, h => by obtain ⟨k, hk, _⟩ := h; omega
  | n + 1, h => by
    obtain ⟨k, hk, h1⟩ := h
    unfold ct
    by_cases hkn : k = n
    · subst hkn; rw [if_pos h1]; omega
    · have := ct_pos n ⟨k, by omega, h1⟩
      omega
/-! rounds of relaxing, over whole numbers; ur: not reached -/
def rnd (n : Nat) (tl hd : Nat → Nat) (gp : Nat → Int) (N : Nat) (ur : Int) (l0 l1 : Nat → Int) (ch : Prop) : Prop :=
  (∀ v, v < N → l0 v ≤ l1 v) ∧
  (∀ U : Nat → Int, lkF n tl hd gp U → (∀ v, v < N → l0 v = ur ∨ l0 v ≤ U v) → ∀ v, v < N → l1 v = ur ∨ l1 v ≤ U v) ∧
  (∀ i, i < n → l0 (tl i) ≠ ur → l0 (tl i) + gp i ≤ l1 (hd i)) ∧
  (¬ ch → ∀ v, v < N → l1 v = l0 v) ∧ (ch → ∃ v, v < N ∧ l0 v < l1 v)
/-- the least of all that hold, from the anchored days on -/
def good (n : Nat) (tl hd : Nat → Nat) (gp : Nat → Int) (N : Nat) (ur : Int) (An : Nat → Prop) (L : Nat → Int) : Prop :=
  lkF n tl hd gp L ∧ (∀ v, v < N → ur < L v) ∧ ∀ S : Nat → Prop, (∀ v, An v → S v) → (∃ v, v < N ∧ ¬ S v) → ∃ i, i < n ∧ S (tl i) ∧ ¬ S (hd i) ∧ L (tl i) + gp i = L (hd i)
def eqc (l L : Nat → Int) (N : Nat) : Nat := ct (fun v => decide (l v = L v)) N
theorem rnd_grow {n N : Nat} {tl hd : Nat → Nat} {gp : Nat → Int} {ur : Int} {An : Nat → Prop} {L l0 l1 : Nat → Int} {ch : Prop} (hk : ∀ i, i < n → tl i < N ∧ hd i < N) (hg : good n tl hd gp N ur An L) (hr : rnd n tl hd gp N ur l0 l1 ch) (hle : ∀ v, v < N → l0 v = ur ∨ l0 v ≤ L v) (hA : ∀ v, An v → l0 v = L v) :
    (∀ v, v < N → l1 v = ur ∨ l1 v ≤ L v) ∧ (∀ v, v < N → l0 v = L v → l1 v = L v) ∧ ((∀ v, v < N → l0 v = L v) ∨ eqc l0 L N < eqc l1 L N) := by
  obtain ⟨r1, r2, r3, r4, r5⟩ := hr
  obtain ⟨g1, g2, g3⟩ := hg
  have hle1 := r2 L g1 hle
  have hkeep : ∀ v, v < N → l0 v = L v → l1 v = L v := by
    intro v hv h
    have h1 := r1 v hv
    have h2 := g2 v hv
    rcases hle1 v hv with q | q <;> omega
  refine ⟨hle1, hkeep, ?_⟩
  by_cases hall : ∀ v, v < N → l0 v = L v
  · exact Or.inl hall
  · refine Or.inr ?_
    have hex : ∃ v, v < N ∧ ¬ l0 v = L v := by
      by_cases h : ∃ v, v < N ∧ ¬ l0 v = L v
      · exact h
      · exact absurd (fun v hv => Classical.byContradiction (fun z => h ⟨v, hv, z⟩)) hall
    obtain ⟨i, hi, s1, s2, s3⟩ := g3 (fun v => l0 v = L v) hA hex
    obtain ⟨k1, k2⟩ := hk i hi
    have h3 := r3 i hi (by have := g2 (tl i) k1; omega)
    have h4 : l1 (hd i) = L (hd i) := by
      have := g2 (hd i) k2
      rcases hle1 (hd i) k2 with q | q <;> omega
    exact ct_lt N (fun k hk h => decide_eq_true (hkeep k hk (of_decide_eq_true h))) ⟨hd i, k2, fun h => s2 (of_decide_eq_true h), decide_eq_true h4⟩
/-- where all is as the least has it, nothing is pushed -/
theorem rnd_still {n N : Nat} {tl hd : Nat → Nat} {gp : Nat → Int} {ur : Int} {An : Nat → Prop} {L l0 l1 : Nat → Int} {ch : Prop} (hg : good n tl hd gp N ur An L) (hr : rnd n tl hd gp N ur l0 l1 ch) (h : ∀ v, v < N → l0 v = L v) : ¬ ch := by
  intro hc
  obtain ⟨r1, r2, r3, r4, r5⟩ := hr
  obtain ⟨v, hv, hlt⟩ := r5 hc
  have h1 := r2 L hg.1 (fun v hv => Or.inr (by rw [h v hv]; exact Int.le_refl _)) v hv
  have h2 := hg.2.1 v hv
  have h3 := h v hv
  rcases h1 with q | q <;> omega
theorem bs {α β : Type} (q : α) (f : α → Option β) : (some q).bind f = f q := rfl
/-! the class's measureFrom -/
theorem push_rnd {n N : Nat} {tl hd : Nat → Nat} {gp : Nat → Int} {B : Int} {l0 l1 : Nat → Int32} {r : Int32} (h : pushed n tl hd gp N B l0 r l1) : rnd n tl hd gp N unr (fun v => (l0 v).toInt) (fun v => (l1 v).toInt) (¬ r = 0) := by
  obtain ⟨h1, h2, h3, h4, h5, h6, h7, h8⟩ := h
  refine ⟨fun v _ => h3 v, fun U hF hl v hv => h5 U hF hl v hv, h6, fun hc v _ => by rw [h7 (Classical.byContradiction hc)], fun hc => ?_⟩
  rcases h1 with q | q
  · exact absurd q hc
  · exact h8 q
theorem measure_init {N : Nat} (hN : N ≤ 41) {ms : Int32} {ts hs gs : Nat → Int32} {u : Int32} (l0 : Nat → Int32) :
    ∃ q, lp (f_X4_measureFrom_l2 (nI N) ms ts hs gs u) gFU (0, l0) = some q ∧ ∀ v, v < N → q.2 v = -1000000000 := by
  refine lp_rule (body := f_X4_measureFrom_l2 (nI N) ms ts hs gs u) (fun sg => ∃ i : Nat, i ≤ N ∧ sg.1 = nI i ∧ ∀ v, v < i → sg.2 v = -1000000000) (fun sg => N - sg.1.toNatClampNeg) (fun q => ∀ v, v < N → q.2 v = -1000000000) ?_ gFU (0, l0) ⟨0, Nat.zero_le N, nI_0.symm, fun v hv => absurd hv (Nat.not_lt_zero v)⟩ (by show N - (0 : Int32).toNatClampNeg < 100000; omega)
  intro sg hinv
  obtain ⟨i, hi, ei, hv⟩ := hinv
  unfold f_X4_measureFrom_l2
  rw [ei]
  by_cases hlt : i < N
  · rw [if_neg (nI_ge hlt (by omega)), gIn_of (vp_in_nI (by omega) (by omega))]
    have cl : (nI i).toNatClampNeg = i := nI_clamp (by omega)
    refine Or.inl ⟨_, rfl, ⟨i + 1, hlt, by rw [← nI_1], ?_⟩, ?_⟩
    · intro v hv2
      show upd sg.2 (nI i).toNatClampNeg (-1000000000) v = -1000000000
      rw [cl]
      by_cases h : v = i
      · subst h; exact upd_s
      · rw [upd_n h]; exact hv v (by omega)
    · show N - (nI i + 1).toNatClampNeg < N - (nI i).toNatClampNeg
      rw [nI_1, nI_clamp (by omega), cl]; omega
  · obtain rfl : i = N := by omega
    rw [if_pos (nI_le (Nat.le_refl i) (by omega))]
    exact Or.inr ⟨_, rfl, hv⟩
/-- what measureFrom(sc) does over links that are in order -/
theorem measure_from {n N sc : Nat} {ts hs gs : Nat → Int32} {tl hd : Nat → Nat} {gp : Nat → Int} (hk : lkOk n ts hs gs tl hd gp N) (hn : n ≤ 348) (hN : N ≤ 41) (hsc : sc < N) (l0 : Nat → Int32) :
    ∃ q, f_X4_measureFrom (nI N) (nI n) ts hs gs l0 (nI sc) = some q ∧ (q.1 = 0 ∨ q.1 = 1) ∧
      (q.1 = 1 → 0 ≤ (q.2 sc).toInt ∧ ∀ i, i < n → (q.2 (tl i)).toInt = unr ∨ (q.2 (tl i)).toInt + gp i ≤ (q.2 (hd i)).toInt) ∧
      (∀ L, good n tl hd gp N unr (fun v => v = sc) L → L sc = 0 → q.1 = 1 ∧ ∀ v, v < N → (q.2 v).toInt = L v) := by
  obtain ⟨q1, hq1, hi1⟩ := measure_init hN (ms := nI n) (ts := ts) (hs := hs) (gs := gs) (u := nI sc) l0
  have cl : (nI sc).toNatClampNeg = sc := nI_clamp (by omega)
  have hin : vp_in (nI sc) 41 := vp_in_nI (by omega) (by omega)
  have hkk : ∀ i, i < n → tl i < N ∧ hd i < N := fun i hi => ⟨(hk i hi).2.2.2.1, (hk i hi).2.2.2.2.1⟩
  have hloop := lp_rule (body := f_X4_measureFrom_l33 (nI N) (nI n) ts hs gs (nI sc))
    (fun sg => ∃ k : Nat, k ≤ N ∧ sg.1 = nI k ∧ lsB (9999 * 348 * (k : Int)) sg.2 N ∧ 0 ≤ (sg.2 sc).toInt ∧
      (∀ L, good n tl hd gp N unr (fun v => v = sc) L → L sc = 0 → (sg.2 sc).toInt = L sc ∧ (∀ v, v < N → (sg.2 v).toInt = unr ∨ (sg.2 v).toInt ≤ L v) ∧ k + 1 ≤ eqc (fun v => (sg.2 v).toInt) L N))
    (fun sg => N - sg.1.toNatClampNeg)
    (fun o => (∃ t, o = .inl t ∧ ∀ L, good n tl hd gp N unr (fun v => v = sc) L → ¬ L sc = 0) ∨ ∃ r : Int32 × (Nat → Int32), o = .inr r ∧ (r.1 = 0 ∨ r.1 = 1) ∧
      (r.1 = 1 → 0 ≤ (r.2 sc).toInt ∧ ∀ i, i < n → (r.2 (tl i)).toInt = unr ∨ (r.2 (tl i)).toInt + gp i ≤ (r.2 (hd i)).toInt) ∧
      (∀ L, good n tl hd gp N unr (fun v => v = sc) L → L sc = 0 → r.1 = 1 ∧ ∀ v, v < N → (r.2 v).toInt = L v))
    (by
      intro sg hinv
      obtain ⟨k, hkN, ek, hB, h0, hL⟩ := hinv
      unfold f_X4_measureFrom_l33
      rw [ek]
      by_cases hlt : k < N
      · rw [if_neg (nI_ge hlt (by omega))]
        obtain ⟨q, hq, hp⟩ := push_all hk hn hN (B := 9999 * 348 * (k : Int)) (by omega) (by omega) hB
        have hr := push_rnd hp
        rw [hq]
        simp only [bs]
        by_cases hz : q.1 = 0
        · rw [if_pos hz]
          have hsame := hp.2.2.2.2.2.2.1 hz
          refine Or.inr ⟨_, rfl, Or.inr ⟨(1, q.2), rfl, Or.inr rfl, fun _ => ⟨by show 0 ≤ (q.2 sc).toInt; rw [hsame]; exact h0, fun i hi => ?_⟩, fun L hg hs0 => ⟨rfl, ?_⟩⟩⟩
          · show (q.2 (tl i)).toInt = unr ∨ (q.2 (tl i)).toInt + gp i ≤ (q.2 (hd i)).toInt
            by_cases hu : (sg.2 (tl i)).toInt = unr
            · exact Or.inl (by rw [hsame]; exact hu)
            · exact Or.inr (by rw [show (q.2 (tl i)).toInt = (sg.2 (tl i)).toInt by rw [hsame]]; exact hp.2.2.2.2.2.1 i hi hu)
          · obtain ⟨a1, a2, a3⟩ := hL L hg hs0
            have gr := rnd_grow hkk hg hr a2 (fun v hv => by subst hv; exact a1)
            intro v hv
            show (q.2 v).toInt = L v
            rcases gr.2.2 with z | z
            · exact gr.2.1 v hv (z v hv)
            · exact absurd z (by rw [hsame]; exact Nat.lt_irrefl _)
        · rw [if_neg hz, gIn_of hin, cl]
          by_cases hle : q.2 sc ≤ 0
          · rw [if_pos hle]
            have hle2 : (q.2 sc).toInt ≤ 0 := i_le.mp hle
            have hge2 : (sg.2 sc).toInt ≤ (q.2 sc).toInt := hp.2.2.1 sc
            refine Or.inl ⟨_, rfl, ⟨k + 1, hlt, by rw [← nI_1], lsB_mono hp.2.1 (by omega), by show 0 ≤ (q.2 sc).toInt; omega, fun L hg hs0 => ?_⟩, ?_⟩
            · obtain ⟨a1, a2, a3⟩ := hL L hg hs0
              have gr := rnd_grow hkk hg hr a2 (fun v hv => by subst hv; exact a1)
              refine ⟨by show (q.2 sc).toInt = L sc; omega, gr.1, ?_⟩
              rcases gr.2.2 with z | z
              · exact absurd hz (rnd_still hg hr z)
              · show k + 1 + 1 ≤ eqc (fun v => (q.2 v).toInt) L N
                omega
            · show N - (nI k + 1).toNatClampNeg < N - (nI k).toNatClampNeg
              rw [nI_1, nI_clamp (by omega), nI_clamp (by omega)]; omega
          · rw [if_neg hle]
            have hle2 : ¬ (q.2 sc).toInt ≤ 0 := fun h => hle (i_le.mpr h)
            refine Or.inr ⟨_, rfl, Or.inr ⟨(0, q.2), rfl, Or.inl rfl, fun h => absurd h (show ¬ (0 : Int32) = 1 by decide), fun L hg hs0 => ?_⟩⟩
            obtain ⟨a1, a2, a3⟩ := hL L hg hs0
            have gr := rnd_grow hkk hg hr a2 (fun v hv => by subst hv; exact a1)
            have h5 := gr.1 sc hsc
            have h6 := hg.2.1 sc hsc
            rcases h5 with z | z
            · exact absurd z (by omega)
            · exact absurd z (by omega)
      · obtain rfl : k = N := by omega
        rw [if_pos (nI_le (Nat.le_refl k) (by omega))]
        refine Or.inr ⟨_, rfl, Or.inl ⟨_, rfl, fun L hg hs0 => ?_⟩⟩
        obtain ⟨a1, a2, a3⟩ := hL L hg hs0
        exact absurd (Nat.le_trans a3 (ct_le _ _)) (by omega))
    gFU (0, upd q1.2 sc 0) ⟨0, Nat.zero_le N, nI_0.symm, ?_, ?_, ?_⟩ (by show N - (0 : Int32).toNatClampNeg < 100000; omega)
  · obtain ⟨o, ho, hpost⟩ := hloop
    unfold f_X4_measureFrom
    rw [hq1]
    show ∃ q, gIn (nI sc) 41 _ = some q ∧ _
    rw [gIn_of hin, cl]
    show ∃ q, ((lp (f_X4_measureFrom_l33 (nI N) (nI n) ts hs gs (nI sc)) gFU (0, upd q1.2 sc 0)).bind _) = some q ∧ _
    rw [ho]
    rcases hpost with ⟨t, e1, h1⟩ | ⟨r, e1, h1, h2, h3⟩
    · subst e1
      exact ⟨(0, t.2), rfl, Or.inl rfl, fun h => absurd h (show ¬ (0 : Int32) = 1 by decide), fun L hg hs0 => absurd hs0 (h1 L hg)⟩
    · subst e1
      exact ⟨r, rfl, h1, h2, h3⟩
  · intro v hv
    show (upd q1.2 sc 0 v).toInt = unr ∨ (-(9999 * 348 * ((0 : Nat) : Int)) ≤ (upd q1.2 sc 0 v).toInt ∧ (upd q1.2 sc 0 v).toInt ≤ 9999 * 348 * ((0 : Nat) : Int))
    by_cases h : v = sc
    · subst h; rw [upd_s]; exact Or.inr ⟨by decide, by decide⟩
    · rw [upd_n h, hi1 v hv]; exact Or.inl rfl
  · show 0 ≤ (upd q1.2 sc 0 sc).toInt
    rw [upd_s]; decide
  · intro L hg hs0
    refine ⟨by show (upd q1.2 sc 0 sc).toInt = L sc; rw [upd_s, hs0]; rfl, fun v hv => ?_, ?_⟩
    · show (upd q1.2 sc 0 v).toInt = unr ∨ (upd q1.2 sc 0 v).toInt ≤ L v
      by_cases h : v = sc
      · subst h; rw [upd_s, hs0]; exact Or.inr (by decide)
      · rw [upd_n h, hi1 v hv]; exact Or.inl rfl
    · show 0 + 1 ≤ ct (fun v => decide ((upd q1.2 sc 0 v).toInt = L v)) N
      exact ct_pos N ⟨sc, hsc, decide_eq_true (by rw [upd_s, hs0]; rfl)⟩
