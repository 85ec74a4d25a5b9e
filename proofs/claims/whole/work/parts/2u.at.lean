/-! at: the line of all in order -/
def aR (a b : Nat → Int) (g h : Nat) : Bool := decide (a g < a h ∨ (a g = a h ∧ (b g < b h ∨ (b g = b h ∧ g < h))))
def rk (a b : Nat → Int) (x n : Nat) : Nat := ct (fun g => aR a b g x) n
theorem aR_irr {a b : Nat → Int} {h : Nat} : aR a b h h = false := decide_eq_false (by omega)
theorem aR_tr {a b : Nat → Int} {g h k : Nat} (h1 : aR a b g h = true) (h2 : aR a b h k = true) : aR a b g k = true := by
  have h1 := of_decide_eq_true h1
  have h2 := of_decide_eq_true h2
  exact decide_eq_true (by omega)
theorem aR_tot {a b : Nat → Int} {g h : Nat} (hne : g ≠ h) : aR a b g h = true ∨ aR a b h g = true := by
  by_cases q : aR a b g h = true
  · exact Or.inl q
  · have q2 : ¬ (a g < a h ∨ (a g = a h ∧ (b g < b h ∨ (b g = b h ∧ g < h)))) := fun z => q (decide_eq_true z)
    exact Or.inr (decide_eq_true (by omega))
theorem rk_le {a b : Nat → Int} {x y n : Nat} (h : aR a b x y = true) : rk a b x n ≤ rk a b y n := ct_mono n (fun k _ hk => aR_tr hk h)
theorem rk_lt {a b : Nat → Int} {x y n : Nat} (h : aR a b x y = true) (hx : x < n) : rk a b x n < rk a b y n := ct_lt n (fun k _ hk => aR_tr hk h) ⟨x, hx, by rw [aR_irr]; decide, h⟩
theorem rk_inj {a b : Nat → Int} {x y n : Nat} (hx : x < n) (hy : y < n) (h : rk a b x n = rk a b y n) : x = y := by
  by_cases hne : x = y
  · exact hne
  · rcases aR_tot (a := a) (b := b) hne with z | z
    · have := rk_lt z hx; omega
    · have := rk_lt z hy; omega
theorem rk_suc {a b : Nat → Int} {x n : Nat} : rk a b x (n + 1) = rk a b x n + if aR a b n x = true then 1 else 0 := rfl
theorem rk_congr {a b a' b' : Nat → Int} {x n : Nat} (hx : x < n) (h : ∀ k, k < n → a k = a' k ∧ b k = b' k) : rk a b x n = rk a' b' x n := by
  have e : ∀ k, k < n → aR a b k x = aR a' b' k x := by
    intro k hk
    unfold aR
    rw [(h k hk).1, (h k hk).2, (h x hx).1, (h x hx).2]
  exact Nat.le_antisymm (ct_mono n (fun k hk z => by rw [← e k hk]; exact z)) (ct_mono n (fun k hk z => by rw [e k hk]; exact z))
def lnV (a b : Nat → Int) (L : Nat → Nat) (n : Nat) : Prop := ∀ p, p < n → L p < n ∧ rk a b (L p) n = p
def insL (L : Nat → Nat) (n q p : Nat) : Nat := if p < q then L p else if p = q then n else L (p - 1)
theorem ln_cut {a b : Nat → Int} {L : Nat → Nat} {n : Nat} (h : lnV a b L n) : (∀ p, p < rk a b n n → aR a b (L p) n = true) ∧ (∀ p, rk a b n n ≤ p → p < n → aR a b n (L p) = true) := by
  have hle : rk a b n n ≤ n := ct_le _ n
  refine ⟨fun p hp => ?_, fun p hp hpn => ?_⟩
  · obtain ⟨h1, h2⟩ := h p (by omega)
    rcases aR_tot (a := a) (b := b) (show L p ≠ n by omega) with z | z
    · exact z
    · have := rk_le (n := n) z; omega
  · obtain ⟨h1, h2⟩ := h p hpn
    rcases aR_tot (a := a) (b := b) (show L p ≠ n by omega) with z | z
    · have := rk_lt z h1; omega
    · exact z
theorem aR_no {a b : Nat → Int} {g h : Nat} (h1 : aR a b g h = true) : ¬ aR a b h g = true := fun h2 => by
  have := aR_tr h1 h2; rw [aR_irr] at this; exact absurd this (by decide)
theorem ln_ins {a b : Nat → Int} {L : Nat → Nat} {n : Nat} (h : lnV a b L n) : lnV a b (insL L n (rk a b n n)) (n + 1) := by
  obtain ⟨c1, c2⟩ := ln_cut h
  have hle : rk a b n n ≤ n := ct_le _ n
  intro p hp
  unfold insL
  by_cases h1 : p < rk a b n n
  · rw [if_pos h1]
    obtain ⟨d1, d2⟩ := h p (by omega)
    refine ⟨by omega, ?_⟩
    rw [rk_suc, if_neg (aR_no (c1 p h1)), d2, Nat.add_zero]
  · rw [if_neg h1]
    by_cases h2 : p = rk a b n n
    · rw [if_pos h2]
      refine ⟨by omega, ?_⟩
      rw [rk_suc, if_neg (by rw [aR_irr]; decide), h2, Nat.add_zero]
    · rw [if_neg h2]
      obtain ⟨d1, d2⟩ := h (p - 1) (by omega)
      refine ⟨by omega, ?_⟩
      rw [rk_suc, if_pos (c2 (p - 1) (by omega) (by omega)), d2]
      omega
theorem ln_ex (a b : Nat → Int) : ∀ n, ∃ L, lnV a b L n
  | 0 => ⟨fun _ => 0, fun p hp => absurd hp (Nat.not_lt_zero p)⟩
  | n + 1 => by obtain ⟨L, h⟩ := ln_ex a b n; exact ⟨_, ln_ins h⟩
/-- the earliest days -/
def kyS (Hn : Nat) (T : Nat → List Sy) (u : Int32) (a b : Nat → Int) : Prop := ∀ h, h < Hn → isL (AE Hn T u) 0 (1 + 2 * h) (a h) ∧ isL (AE Hn T u) 0 (2 + 2 * h) (b h)
def atS (Hn : Nat) (T : Nat → List Sy) (u p r : Int32) : Prop :=
  (∀ i, i < Hn → p = nI i → Feas Hn T u → ∃ a b x, kyS Hn T u a b ∧ x < Hn ∧ r = nI x ∧ rk a b x Hn = i) ∧ (((∀ h, h < Hn → ¬ p = nI h) ∨ ¬ Feas Hn T u) → r = -1)
theorem atS_one {Hn : Nat} {T : Nat → List Sy} {u p r r' : Int32} (h : atS Hn T u p r) (h' : atS Hn T u p r') : r = r' := by
  by_cases hb : (∀ h, h < Hn → ¬ p = nI h) ∨ ¬ Feas Hn T u
  · rw [h.2 hb, h'.2 hb]
  · have h1 : ∃ k, k < Hn ∧ p = nI k := Classical.byContradiction (fun z => hb (Or.inl (fun k hk e => z ⟨k, hk, e⟩)))
    have h2 : Feas Hn T u := Classical.byContradiction (fun z => hb (Or.inr z))
    obtain ⟨k, hk, e⟩ := h1
    obtain ⟨a, b, x, c1, c2, c3, c4⟩ := h.1 k hk e h2
    obtain ⟨a', b', x', c1', c2', c3', c4'⟩ := h'.1 k hk e h2
    rw [← rk_congr (a := a) (b := b) c2' (fun j hj => ⟨isL_one (c1 j hj).1 (c1' j hj).1, isL_one (c1 j hj).2 (c1' j hj).2⟩)] at c4'
    rw [c3, c3', rk_inj c2 c2' (c4.trans c4'.symm)]
def lnI (Hn : Nat) (T : Nat → List Sy) (u lk : Int32) (line : Nat → Int32) : Prop := (lk = 0 ∨ lk = 1) ∧ (¬ lk = 0 → ∃ a b L, kyS Hn T u a b ∧ lnV a b L Hn ∧ ∀ p, p < Hn → line p = nI (L p))
theorem isAhead_R {ea el : Nat → Int32} {g h : Nat} (hg : g < 20) (hh : h < 20) : f_X12_isAhead ea el (nI g) (nI h) = some (if aR (fun k => (ea k).toInt) (fun k => (el k).toInt) g h = true then 1 else 0) := by
  unfold f_X12_isAhead
  simp only [gIn_of (vp_in_nI hg (by omega)), gIn_of (vp_in_nI hh (by omega)), nI_clamp (show g < 2 ^ 31 by omega), nI_clamp (show h < 2 ^ 31 by omega)]
  unfold aR
  simp only [decide_eq_true_eq]
  by_cases c1 : ea g = ea h
  · rw [if_pos c1]
    have c1' := i_eq.mp c1
    by_cases c2 : el g = el h
    · rw [if_pos c2]
      have c2' := i_eq.mp c2
      by_cases c3 : nI h ≤ nI g
      · have c3' := i_le.mp c3
        rw [nI_toInt (by omega), nI_toInt (by omega)] at c3'
        rw [if_pos c3, if_neg (by omega)]
      · have c3' : ¬ (nI h).toInt ≤ (nI g).toInt := fun z => c3 (i_le.mpr z)
        rw [nI_toInt (by omega), nI_toInt (by omega)] at c3'
        rw [if_neg c3, if_pos (by omega)]
    · rw [if_neg c2]
      have c2' : ¬ (el g).toInt = (el h).toInt := fun z => c2 (i_eq.mpr z)
      by_cases c3 : el h ≤ el g
      · have c3' := i_le.mp c3
        rw [if_pos c3, if_neg (by omega)]
      · have c3' : ¬ (el h).toInt ≤ (el g).toInt := fun z => c3 (i_le.mpr z)
        rw [if_neg c3, if_pos (by omega)]
  · rw [if_neg c1]
    have c1' : ¬ (ea g).toInt = (ea h).toInt := fun z => c1 (i_eq.mpr z)
    by_cases c3 : ea h ≤ ea g
    · have c3' := i_le.mp c3
      rw [if_pos c3, if_neg (by omega)]
    · have c3' : ¬ (ea h).toInt ≤ (ea g).toInt := fun z => c3 (i_le.mpr z)
      rw [if_neg c3, if_pos (by omega)]
theorem ranks_R {Hn : Nat} (hH : Hn ≤ 20) (th u mb : Int32) (ma so on ot lo hi be ah mo le fr ea el : Nat → Int32) (p1 : Int32) {h : Nat} (hh : h < Hn) :
    ∃ q, lp (f_X12_at_l91 th (nI Hn) u mb ma so on ot lo hi be ah mo le fr ea el p1 (nI h)) gFU (0, 0) = some q ∧ q.1 = nI (rk (fun k => (ea k).toInt) (fun k => (el k).toInt) h Hn) := by
  refine lp_rule (body := f_X12_at_l91 th (nI Hn) u mb ma so on ot lo hi be ah mo le fr ea el p1 (nI h)) (fun sg => ∃ g : Nat, g ≤ Hn ∧ sg.2 = nI g ∧ sg.1 = nI (rk (fun k => (ea k).toInt) (fun k => (el k).toInt) h g)) (fun sg => Hn - sg.2.toNatClampNeg) (fun q => q.1 = nI (rk (fun k => (ea k).toInt) (fun k => (el k).toInt) h Hn)) ?_ gFU (0, 0) ⟨0, Nat.zero_le _, nI_0.symm, nI_0.symm⟩ (by show Hn - (0 : Int32).toNatClampNeg < 100000; omega)
  intro sg hinv
  obtain ⟨g, hg, eg, ec⟩ := hinv
  unfold f_X12_at_l91
  rw [eg]
  by_cases hlt : g < Hn
  · rw [if_neg (nI_ge hlt (by omega))]
    have mes : Hn - (nI g + 1).toNatClampNeg < Hn - (nI g).toNatClampNeg := by rw [nI_1, nI_clamp (by omega), nI_clamp (by omega)]; omega
    by_cases heq : nI g = nI h
    · rw [if_pos heq]
      have e2 : g = h := (nI_eq (by omega) (by omega)).mp heq
      refine Or.inl ⟨_, rfl, ⟨g + 1, hlt, by rw [← nI_1], ?_⟩, mes⟩
      rw [rk_suc, e2, if_neg (by rw [aR_irr]; decide), Nat.add_zero, ← e2]
      rw [e2] at ec ⊢
      exact ec
    · rw [if_neg heq, isAhead_R (by omega) (by omega)]
      simp only [bs]
      by_cases ha : aR (fun k => (ea k).toInt) (fun k => (el k).toInt) g h = true
      · rw [if_pos ha, if_neg (show ¬ (1 : Int32) = 0 by decide)]
        refine Or.inl ⟨_, rfl, ⟨g + 1, hlt, by rw [← nI_1], ?_⟩, mes⟩
        rw [rk_suc, if_pos ha, ec, nI_1]
      · rw [if_neg ha, if_pos rfl]
        refine Or.inl ⟨_, rfl, ⟨g + 1, hlt, by rw [← nI_1], ?_⟩, mes⟩
        rw [rk_suc, if_neg ha, Nat.add_zero]
        exact ec
  · obtain rfl : g = Hn := by omega
    rw [if_pos (nI_le (Nat.le_refl _) (by omega))]
    exact Or.inr ⟨_, rfl, ec⟩
theorem at_R {Hn : Nat} (hH : Hn ≤ 20) {ma so on ot lo hi : Nat → Int32} {T : Nat → List Sy} (hT : TXr ma so on ot lo hi Hn T) (th u mb : Int32) (be ah mo le fr ea el : Nat → Int32) (p1 : Int32) :
    ∃ q, f_X12_at th (nI Hn) u mb ma so on ot lo hi be ah mo le fr ea el p1 = some q ∧ atS Hn T u p1 q.1 ∧ q.2.1 = 0 := by
  unfold f_X12_at
  rcases pk_ix p1 (n := Hn) (by omega) with z | z | ⟨i, hi', rfl⟩
  · rw [if_pos z]
    exact ⟨_, rfl, ⟨fun i hi' ei _ => absurd z (by rw [ei]; exact nI_pos (by omega)), fun _ => rfl⟩, rfl⟩
  · by_cases z0 : p1 < 0
    · rw [if_pos z0]
      exact ⟨_, rfl, ⟨fun i hi' ei _ => absurd z0 (by rw [ei]; exact nI_pos (by omega)), fun _ => rfl⟩, rfl⟩
    · rw [if_neg z0, if_pos z]
      exact ⟨_, rfl, ⟨fun i hi' ei _ => absurd z (by rw [ei]; exact nI_ge hi' (by omega)), fun _ => rfl⟩, rfl⟩
  · rw [if_neg (nI_pos (by omega)), if_neg (nI_ge hi' (by omega))]
    obtain ⟨q, eq, b1, b2, b3, b4⟩ := agree_R hH hT 0 mb be ah mo le fr u
    rw [eq]; simp only [bs]
    by_cases hz : q.1 = 0
    · rw [if_pos hz]
      have hnf : ¬ Feas Hn T u := fun hf => absurd (hz.symm.trans (b2.mpr hf)) (by decide)
      exact ⟨_, rfl, ⟨fun k hk ek hf => absurd hf hnf, fun _ => rfl⟩, b3⟩
    · rw [if_neg hz]
      have hf : Feas Hn T u := b2.mp (b1.resolve_left hz)
      obtain ⟨t1, ht1, hq1⟩ := lp_rule (body := f_X12_at_l28 q.2.1 (nI Hn) u q.2.2.1 ma so on ot lo hi q.2.2.2.1 q.2.2.2.2.1 q.2.2.2.2.2.1 q.2.2.2.2.2.2.1 (nI i)) (fun sg => ∃ j : Nat, j ≤ Hn ∧ sg.1 = nI j ∧ ∀ h, h < j → isL (AE Hn T u) 0 (1 + 2 * h) (sg.2.2.1 h).toInt ∧ isL (AE Hn T u) 0 (2 + 2 * h) (sg.2.2.2 h).toInt) (fun sg => Hn - sg.1.toNatClampNeg) (fun t => kyS Hn T u (fun k => (t.2.2.1 k).toInt) (fun k => (t.2.2.2 k).toInt))
        (by
          intro sg hinv
          obtain ⟨j, hj, ej, hk⟩ := hinv
          unfold f_X12_at_l28
          rw [ej]
          by_cases hlt : j < Hn
          · rw [if_neg (nI_ge hlt (by omega)), n1, nn2]
            have mes : Hn - (nI j + 1).toNatClampNeg < Hn - j := by rw [nI_1, nI_clamp (by omega)]; omega
            obtain ⟨r, er, dr⟩ := mostOf_R hH (TXr_ok hT) b4 sg.2.1 hf (a := 1 + 2 * j) (b := 0) (by omega) (by omega)
            rw [show (0 : Int32) = nI 0 from rfl, er]; simp only [bs]
            obtain ⟨r2, er2, dr2⟩ := mostOf_R hH (TXr_ok hT) b4 r.2 hf (a := 2 + 2 * j) (b := 0) (by omega) (by omega)
            rw [er2]; simp only [bs]
            have g1 := isL_rng (by omega) (by omega) dr
            have g2 := isL_rng (by omega) (by omega) dr2
            simp only [gIn_of (vp_in_nI (show j < 20 by omega) (by omega)), nI_clamp (show j < 2 ^ 31 by omega)]
            refine Or.inl ⟨_, rfl, ⟨j + 1, hlt, by rw [← nI_1], fun h hh => ?_⟩, mes⟩
            show isL (AE Hn T u) 0 (1 + 2 * h) (upd sg.2.2.1 j (-r.1) h).toInt ∧ isL (AE Hn T u) 0 (2 + 2 * h) (upd sg.2.2.2 j (-r2.1) h).toInt
            by_cases hje : h = j
            · subst hje
              rw [upd_s, upd_s, i_neg (by omega), i_neg (by omega)]
              exact ⟨dr, dr2⟩
            · rw [upd_n hje, upd_n hje]
              exact hk h (by omega)
          · obtain rfl : j = Hn := by omega
            rw [if_pos (nI_le (Nat.le_refl _) (by omega))]
            exact Or.inr ⟨_, rfl, hk⟩)
        gFU (0, q.2.2.2.2.2.2.2, ea, el) ⟨0, Nat.zero_le _, nI_0.symm, fun h hh => absurd hh (Nat.not_lt_zero h)⟩ (by show Hn - (0 : Int32).toNatClampNeg < 100000; omega)
      rw [ht1]; simp only [bs]
      obtain ⟨L, hL⟩ := ln_ex (fun k => (t1.2.2.1 k).toInt) (fun k => (t1.2.2.2 k).toInt) Hn
      obtain ⟨t2, ht2, hq2⟩ := lp_rule (body := f_X12_at_l78 q.2.1 (nI Hn) u q.2.2.1 ma so on ot lo hi q.2.2.2.1 q.2.2.2.2.1 q.2.2.2.2.2.1 q.2.2.2.2.2.2.1 t1.2.1 t1.2.2.1 t1.2.2.2 (nI i)) (fun sg => ∃ h : Nat, h ≤ Hn ∧ sg = nI h ∧ ∀ x, x < h → rk (fun k => (t1.2.2.1 k).toInt) (fun k => (t1.2.2.2 k).toInt) x Hn ≠ i) (fun sg => Hn - sg.toNatClampNeg) (fun t => Sum.elim (fun _ => False) (fun r => (∃ x, x < Hn ∧ r.1 = nI x ∧ rk (fun k => (t1.2.2.1 k).toInt) (fun k => (t1.2.2.2 k).toInt) x Hn = i) ∧ r.2.1 = q.2.1) t)
        (by
          intro sg hinv
          obtain ⟨h, hh, rfl, hne⟩ := hinv
          unfold f_X12_at_l78
          by_cases hlt : h < Hn
          · rw [if_neg (nI_ge hlt (by omega))]
            have mes : Hn - (nI h + 1).toNatClampNeg < Hn - (nI h).toNatClampNeg := by rw [nI_1, nI_clamp (by omega), nI_clamp (by omega)]; omega
            obtain ⟨t3, ht3, hq3⟩ := ranks_R hH q.2.1 u q.2.2.1 ma so on ot lo hi q.2.2.2.1 q.2.2.2.2.1 q.2.2.2.2.2.1 q.2.2.2.2.2.2.1 t1.2.1 t1.2.2.1 t1.2.2.2 (nI i) hlt
            rw [ht3]; simp only [bs]
            rw [hq3]
            have hrl : rk (fun k => (t1.2.2.1 k).toInt) (fun k => (t1.2.2.2 k).toInt) h Hn ≤ Hn := ct_le _ Hn
            by_cases he : nI (rk (fun k => (t1.2.2.1 k).toInt) (fun k => (t1.2.2.2 k).toInt) h Hn) = nI i
            · rw [if_pos he]
              exact Or.inr ⟨_, rfl, ⟨h, hlt, rfl, (nI_eq (by omega) (by omega)).mp he⟩, rfl⟩
            · rw [if_neg he]
              refine Or.inl ⟨_, rfl, ⟨h + 1, hlt, by rw [← nI_1], fun x hx => ?_⟩, mes⟩
              by_cases hxh : x < h
              · exact hne x hxh
              · obtain rfl : x = h := by omega
                exact fun e => he (by rw [e])
          · obtain rfl : h = Hn := by omega
            obtain ⟨c1, c2⟩ := hL i hi'
            exact absurd c2 (hne _ c1))
        gFU 0 ⟨0, Nat.zero_le _, nI_0.symm, fun x hx => absurd hx (Nat.not_lt_zero x)⟩ (by show Hn - (0 : Int32).toNatClampNeg < 100000; omega)
      rw [ht2]; simp only [bs]
      cases t2 with
      | inl a => exact absurd hq2 (fun z => z)
      | inr r =>
        obtain ⟨⟨x, x1, x2, x3⟩, r2⟩ := hq2
        refine ⟨_, rfl, ⟨fun k hk ek _ => ⟨_, _, x, hq1, x1, x2, ?_⟩, fun z => ?_⟩, by show r.2.1 = 0; rw [r2]; exact b3⟩
        · rw [x3]; exact (nI_eq (by omega) (by omega)).mp ek
        · rcases z with z | z
          · exact absurd rfl (z i hi')
          · exact absurd hf z
/-! the class's line -/
theorem isEarlier_C {ls : Nat → Int32} {h x : Nat} (hh : h < 20) (hx : x < h) : f_X1_isEarlier ls (nI h) (nI x) = some (if aR (fun k => (ls (1 + 2 * k)).toInt) (fun k => (ls (2 + 2 * k)).toInt) h x = true then 1 else 0) := by
  unfold f_X1_isEarlier
  simp only [fo, la, bs, gIn_of (vp_in_nI (show 1 + 2 * h < 41 by omega) (by omega)), gIn_of (vp_in_nI (show 1 + 2 * x < 41 by omega) (by omega)), gIn_of (vp_in_nI (show 2 + 2 * h < 41 by omega) (by omega)), gIn_of (vp_in_nI (show 2 + 2 * x < 41 by omega) (by omega)), nI_clamp (show 1 + 2 * h < 2 ^ 31 by omega), nI_clamp (show 1 + 2 * x < 2 ^ 31 by omega), nI_clamp (show 2 + 2 * h < 2 ^ 31 by omega), nI_clamp (show 2 + 2 * x < 2 ^ 31 by omega)]
  unfold aR f_J6_compare_7cf53
  simp only [decide_eq_true_eq]
  by_cases c1 : ls (1 + 2 * x) ≤ ls (1 + 2 * h)
  · rw [if_pos c1]
    have c1' := i_le.mp c1
    by_cases c2 : ls (1 + 2 * h) = ls (1 + 2 * x)
    · have c2' := i_eq.mp c2
      rw [if_pos c2]; simp only [bs]
      rw [if_pos trivial]
      by_cases c3 : ls (2 + 2 * x) ≤ ls (2 + 2 * h)
      · have c3' := i_le.mp c3
        rw [if_pos c3, if_neg (by omega)]
      · have c3' : ¬ (ls (2 + 2 * x)).toInt ≤ (ls (2 + 2 * h)).toInt := fun z => c3 (i_le.mpr z)
        rw [if_neg c3, if_pos (by omega)]
    · have c2' : ¬ (ls (1 + 2 * h)).toInt = (ls (1 + 2 * x)).toInt := fun z => c2 (i_eq.mpr z)
      rw [if_neg c2]; simp only [bs]
      rw [if_neg (show ¬ (1 : Int32) = 0 by decide), if_pos (show (0 : Int32) ≤ 1 by decide), if_neg (by omega)]
  · rw [if_neg c1]; simp only [bs]
    have c1' : ¬ (ls (1 + 2 * x)).toInt ≤ (ls (1 + 2 * h)).toInt := fun z => c1 (i_le.mpr z)
    rw [if_neg (show ¬ (-1 : Int32) = 0 by decide), if_neg (show ¬ (0 : Int32) ≤ -1 by decide), if_pos (by omega)]
theorem insert_C {Hn : Nat} (hH : Hn ≤ 20) (tt : Nat → Nat) (u lk mn ms : Int32) (ts hs gs ls lo sz : Nat → Int32) (w : Nat → Nat) (ow ot fs sn : Nat → Int32) {h : Nat} (hh : h < Hn) (line : Nat → Int32) (L : Nat → Nat) (hL : lnV (fun k => (ls (1 + 2 * k)).toInt) (fun k => (ls (2 + 2 * k)).toInt) L h) (hl : ∀ p, p < h → line p = nI (L p)) :
    ∃ q, lp (f_X1_findLine_l37 (nI Hn) tt u lk mn ms ts hs gs ls lo sz w ow ot fs sn (nI h)) gFU (nI h, line) = some q ∧ q.1 = nI (rk (fun k => (ls (1 + 2 * k)).toInt) (fun k => (ls (2 + 2 * k)).toInt) h h) ∧ (∀ p, p < rk (fun k => (ls (1 + 2 * k)).toInt) (fun k => (ls (2 + 2 * k)).toInt) h h → q.2 p = nI (L p)) ∧ (∀ p, rk (fun k => (ls (1 + 2 * k)).toInt) (fun k => (ls (2 + 2 * k)).toInt) h h < p → p ≤ h → q.2 p = nI (L (p - 1))) := by
  obtain ⟨c1, c2⟩ := ln_cut hL
  have hle : rk (fun k => (ls (1 + 2 * k)).toInt) (fun k => (ls (2 + 2 * k)).toInt) h h ≤ h := ct_le _ h
  refine lp_rule (body := f_X1_findLine_l37 (nI Hn) tt u lk mn ms ts hs gs ls lo sz w ow ot fs sn (nI h)) (fun sg => ∃ q : Nat, q ≤ h ∧ rk (fun k => (ls (1 + 2 * k)).toInt) (fun k => (ls (2 + 2 * k)).toInt) h h ≤ q ∧ sg.1 = nI q ∧ (∀ p, p < q → sg.2 p = nI (L p)) ∧ (∀ p, q < p → p ≤ h → sg.2 p = nI (L (p - 1)))) (fun sg => sg.1.toNatClampNeg) (fun q => q.1 = nI (rk (fun k => (ls (1 + 2 * k)).toInt) (fun k => (ls (2 + 2 * k)).toInt) h h) ∧ (∀ p, p < rk (fun k => (ls (1 + 2 * k)).toInt) (fun k => (ls (2 + 2 * k)).toInt) h h → q.2 p = nI (L p)) ∧ (∀ p, rk (fun k => (ls (1 + 2 * k)).toInt) (fun k => (ls (2 + 2 * k)).toInt) h h < p → p ≤ h → q.2 p = nI (L (p - 1)))) ?_ gFU (nI h, line) ⟨h, Nat.le_refl _, hle, rfl, hl, fun p hp hp2 => by omega⟩ (by show (nI h).toNatClampNeg < 100000; rw [nI_clamp (by omega)]; omega)
  intro sg hinv
  obtain ⟨q, hq, hrq, eq, l1, l2⟩ := hinv
  unfold f_X1_findLine_l37
  rw [eq]
  by_cases hq0 : q = 0
  · subst hq0
    rw [if_pos (show nI 0 ≤ 0 by decide)]
    refine Or.inr ⟨_, rfl, ?_⟩
    have e0 : rk (fun k => (ls (1 + 2 * k)).toInt) (fun k => (ls (2 + 2 * k)).toInt) h h = 0 := by omega
    rw [e0]
    exact ⟨rfl, l1, l2⟩
  · have hnz : ¬ nI q ≤ 0 := nI_ge (a := 0) (b := q) (by omega) (by omega)
    have esub : nI q - 1 = nI (q - 1) := by
      refine i_eq.mpr ?_
      rw [i_sub (by rw [nI_toInt (by omega)]; show -2147483648 ≤ (q : Int) - 1; omega) (by rw [nI_toInt (by omega)]; show (q : Int) - 1 < _; omega), nI_toInt (by omega), nI_toInt (by omega)]
      show (q : Int) - 1 = _
      omega
    have esub2 : nI q + (-1) = nI (q - 1) := by rw [← esub, Int32.sub_eq_add_neg]
    obtain ⟨d1, d2⟩ := hL (q - 1) (by omega)
    rw [if_neg hnz, esub, esub2]
    simp only [gIn_of (vp_in_nI (show q - 1 < 20 by omega) (by omega)), gIn_of (vp_in_nI (show q < 20 by omega) (by omega)), nI_clamp (show q - 1 < 2 ^ 31 by omega), nI_clamp (show q < 2 ^ 31 by omega)]
    rw [l1 (q - 1) (by omega), isEarlier_C (by omega) d1]
    simp only [bs]
    by_cases ha : aR (fun k => (ls (1 + 2 * k)).toInt) (fun k => (ls (2 + 2 * k)).toInt) h (L (q - 1)) = true
    · rw [if_pos ha, if_neg (show ¬ (1 : Int32) = 0 by decide)]
      have hr2 : rk (fun k => (ls (1 + 2 * k)).toInt) (fun k => (ls (2 + 2 * k)).toInt) h h ≤ q - 1 := by
        have := rk_le (n := h) ha
        omega
      refine Or.inl ⟨_, rfl, ⟨q - 1, by omega, hr2, rfl, fun p hp => ?_, fun p hp hp2 => ?_⟩, by show (nI (q - 1)).toNatClampNeg < q; rw [nI_clamp (by omega)]; omega⟩
      · show upd sg.2 q (nI (L (q - 1))) p = _
        rw [upd_n (by omega)]; exact l1 p (by omega)
      · show upd sg.2 q (nI (L (q - 1))) p = _
        by_cases e : p = q
        · subst e; rw [upd_s]
        · rw [upd_n e]; exact l2 p (by omega) hp2
    · rw [if_neg ha, if_pos rfl]
      refine Or.inr ⟨_, rfl, ?_⟩
      have hr2 : rk (fun k => (ls (1 + 2 * k)).toInt) (fun k => (ls (2 + 2 * k)).toInt) h h = q := by
        refine Nat.le_antisymm hrq (Nat.le_of_not_lt (fun z => ha (c2 (q - 1) (by omega) (by omega))))
      rw [hr2]
      exact ⟨rfl, l1, l2⟩
theorem findLine_C {Hn : Nat} (hH : Hn ≤ 20) {tt : Nat → Nat} {sz : Nat → Int32} {w : Nat → Nat} {ow ot fs sn : Nat → Int32} {T : Nat → List Sy} (hT : TXc tt sz w ow ot fs sn Hn T) (u lk mn ms : Int32) (ts hs gs l0 lo line : Nat → Int32) (hlo : ∀ k, k < 72 → lo k = 0) (hl : lnI Hn T u lk line) (hf : Feas Hn T u) :
    ∃ q, f_X1_findLine (nI Hn) tt u lk mn ms ts hs gs l0 lo line sz w ow ot fs sn = some q ∧ q.1 = 1 ∧ lnI Hn T u q.1 q.2.2.2.2.2.2.2 := by
  unfold f_X1_findLine
  by_cases hz : lk = 0
  · rw [if_pos hz]
    obtain ⟨q, e1, c1, c2, c3⟩ := isWay_C hH hT mn ms ts hs gs l0 lo u
    rw [CE_all (TXc_ok hT) hlo] at c3
    rw [e1]; simp only [bs]
    have hk : kyS Hn T u (fun k => (q.2.2.2.2.2.2 (1 + 2 * k)).toInt) (fun k => (q.2.2.2.2.2.2 (2 + 2 * k)).toInt) := fun h hh => ⟨c3 hf _ (by omega), c3 hf _ (by omega)⟩
    obtain ⟨t1, ht1, L, hL, hl1⟩ := lp_rule (body := f_X1_findLine_l24 (nI Hn) tt u 1 q.2.1 q.2.2.1 q.2.2.2.1 q.2.2.2.2.1 q.2.2.2.2.2.1 q.2.2.2.2.2.2 lo sz w ow ot fs sn) (fun sg => ∃ h : Nat, h ≤ Hn ∧ sg.1 = nI h ∧ ∃ L, lnV (fun k => (q.2.2.2.2.2.2 (1 + 2 * k)).toInt) (fun k => (q.2.2.2.2.2.2 (2 + 2 * k)).toInt) L h ∧ ∀ p, p < h → sg.2 p = nI (L p)) (fun sg => Hn - sg.1.toNatClampNeg) (fun t => ∃ L, lnV (fun k => (q.2.2.2.2.2.2 (1 + 2 * k)).toInt) (fun k => (q.2.2.2.2.2.2 (2 + 2 * k)).toInt) L Hn ∧ ∀ p, p < Hn → t.2 p = nI (L p))
      (by
        intro sg hinv
        obtain ⟨h, hh, eh, L, hL, hl1⟩ := hinv
        unfold f_X1_findLine_l24
        rw [eh]
        by_cases hlt : h < Hn
        · rw [if_neg (nI_ge hlt (by omega))]
          have mes : Hn - (nI h + 1).toNatClampNeg < Hn - (nI h).toNatClampNeg := by rw [nI_1, nI_clamp (by omega), nI_clamp (by omega)]; omega
          obtain ⟨t3, ht3, g1, g2, g3⟩ := insert_C hH tt u 1 q.2.1 q.2.2.1 q.2.2.2.1 q.2.2.2.2.1 q.2.2.2.2.2.1 q.2.2.2.2.2.2 lo sz w ow ot fs sn hlt sg.2 L hL hl1
          have hle : rk (fun k => (q.2.2.2.2.2.2 (1 + 2 * k)).toInt) (fun k => (q.2.2.2.2.2.2 (2 + 2 * k)).toInt) h h ≤ h := ct_le _ h
          rw [ht3]; simp only [bs]
          unfold f_X1_findLine_b77
          rw [g1, gIn_of (vp_in_nI (by omega) (by omega)), nI_clamp (by omega)]
          refine Or.inl ⟨_, rfl, ⟨h + 1, hlt, by rw [← nI_1], _, ln_ins hL, fun p hp => ?_⟩, mes⟩
          show upd t3.2 _ (nI h) p = nI (insL L h _ p)
          unfold insL
          by_cases e1 : p < rk (fun k => (q.2.2.2.2.2.2 (1 + 2 * k)).toInt) (fun k => (q.2.2.2.2.2.2 (2 + 2 * k)).toInt) h h
          · rw [if_pos e1, upd_n (by omega)]; exact g2 p e1
          · rw [if_neg e1]
            by_cases e2 : p = rk (fun k => (q.2.2.2.2.2.2 (1 + 2 * k)).toInt) (fun k => (q.2.2.2.2.2.2 (2 + 2 * k)).toInt) h h
            · rw [if_pos e2, e2, upd_s]
            · rw [if_neg e2, upd_n e2]; exact g3 p (by omega) (by omega)
        · obtain rfl : h = Hn := by omega
          rw [if_pos (nI_le (Nat.le_refl _) (by omega))]
          exact Or.inr ⟨_, rfl, L, hL, hl1⟩)
      gFU (0, line) ⟨0, Nat.zero_le _, nI_0.symm, fun _ => 0, fun p hp => absurd hp (Nat.not_lt_zero p), fun p hp => absurd hp (Nat.not_lt_zero p)⟩ (by show Hn - (0 : Int32).toNatClampNeg < 100000; omega)
    rw [ht1]
    exact ⟨_, rfl, rfl, Or.inr rfl, fun _ => ⟨_, _, L, hk, hL, hl1⟩⟩
  · rw [if_neg hz]
    exact ⟨_, rfl, hl.1.resolve_left hz, hl⟩
theorem at_C {Hn : Nat} (hH : Hn ≤ 20) {tt : Nat → Nat} {sz : Nat → Int32} {w : Nat → Nat} {ow ot fs sn : Nat → Int32} {T : Nat → List Sy} (hT : TXc tt sz w ow ot fs sn Hn T) (u wk wy lk mn ms : Int32) (ts hs gs l0 lo line : Nat → Int32) (hlo : ∀ k, k < 72 → lo k = 0) (hw : wayI wk wy (Feas Hn T u)) (hl : lnI Hn T u lk line) (p1 : Int32) :
    ∃ q, f_X11_at (nI Hn) tt u wk wy lk mn ms ts hs gs l0 lo line sz w ow ot fs sn p1 = some q ∧ atS Hn T u p1 q.1 ∧ wayI q.2.1 q.2.2.1 (Feas Hn T u) ∧ lnI Hn T u q.2.2.2.1 q.2.2.2.2.2.2.2.2.2.2 := by
  unfold f_X11_at
  rcases has_C hH p1 with ⟨h, hh, rfl, e⟩ | ⟨hno, e⟩
  · rw [e]; simp only [bs]
    rw [if_neg (show ¬ (1 : Int32) = 0 by decide)]
    obtain ⟨q, eq, b1, b2, b3, b4⟩ := hasWay_C hH hT wk wy mn ms ts hs gs l0 lo u hlo hw
    rw [eq]; simp only [bs]
    have hw2 : wayI q.2.1 q.2.2.1 (Feas Hn T u) := ⟨Or.inr b3, by rw [b4]; exact b1, fun _ => by rw [b4]; exact b2⟩
    by_cases hz : q.1 = 0
    · rw [if_pos hz]
      have hnf : ¬ Feas Hn T u := fun hf => absurd (hz.symm.trans (b2.mpr hf)) (by decide)
      exact ⟨_, rfl, ⟨fun k hk ek hf => absurd hf hnf, fun _ => rfl⟩, hw2, hl⟩
    · rw [if_neg hz]
      have hf : Feas Hn T u := b2.mp (b1.resolve_left hz)
      obtain ⟨r, er, r1, r2⟩ := findLine_C hH hT u lk q.2.2.2.1 q.2.2.2.2.1 q.2.2.2.2.2.1 q.2.2.2.2.2.2.1 q.2.2.2.2.2.2.2.1 q.2.2.2.2.2.2.2.2 lo line hlo hl hf
      rw [er]; simp only [bs]
      rw [gIn_of (vp_in_nI (show h < 20 by omega) (by omega)), nI_clamp (by omega)]
      refine ⟨_, rfl, ⟨fun k hk ek _ => ?_, fun z => ?_⟩, hw2, r2⟩
      · obtain ⟨a, b, L, k1, k2, k3⟩ := r2.2 (by rw [r1]; decide)
        obtain rfl : h = k := (nI_eq (by omega) (by omega)).mp ek
        exact ⟨a, b, L h, k1, (k2 h hh).1, k3 h hh, (k2 h hh).2⟩
      · rcases z with z | z
        · exact absurd rfl (z h hh)
        · exact absurd hf z
  · rw [e]; simp only [bs]
    rw [if_pos trivial]
    exact ⟨_, rfl, ⟨fun k hk ek _ => absurd ek (hno k hk), fun _ => rfl⟩, hw, hl⟩
