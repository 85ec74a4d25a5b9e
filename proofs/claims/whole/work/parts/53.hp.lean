theorem free_T {n ty : Nat} {l : List Nat} {nm : Int64} (hty : ty ≤ 8 → l.all ltr = true ∧ ty = kwO l) (r3 : ty ≤ 8 → nm.toInt = (nmN l : Int)) : f_X12_isFree (nI (kT n ty)) nm = some (ob (decide (ty = 8))) := by
  unfold f_X12_isFree
  by_cases h8 : ty ≤ 8
  · have e2 : nI (kT n (ty)) = (2 : Int32) := (kd_eq (c := 2) (by omega)).mpr (kT_2.mpr h8)
    rw [if_pos e2]
    obtain ⟨b1, b2⟩ := hty h8
    have hiff : ∀ w, w < 8 → (lg_cmp nm (kwW w) = 0 ↔ ty = w) := by
      intro w hw
      rw [lg_0, l_eq, r3 h8, kwW_i w hw, b2, kwO_inv hw, ← nm_eq b1 (kws_l w hw)]
      omega
    have i0 : lg_cmp nm 419 = 0 ↔ ty = 0 := hiff 0 (by omega)
    have i1 : lg_cmp nm 131638 = 0 ↔ ty = 1 := hiff 1 (by omega)
    have i2 : lg_cmp nm 79 = 0 ↔ ty = 2 := hiff 2 (by omega)
    have i3 : lg_cmp nm 10284818 = 0 ↔ ty = 3 := hiff 3 (by omega)
    have i4 : lg_cmp nm 6411385 = 0 ↔ ty = 4 := hiff 4 (by omega)
    have i5 : lg_cmp nm 31484543 = 0 ↔ ty = 5 := hiff 5 (by omega)
    have i6 : lg_cmp nm 12387497 = 0 ↔ ty = 6 := hiff 6 (by omega)
    have i7 : lg_cmp nm 555 = 0 ↔ ty = 7 := hiff 7 (by omega)
    by_cases hc : ty = 8
    · rw [if_neg (by rw [i0]; omega), if_neg (by rw [i1]; omega), if_neg (by rw [i7]; omega), if_neg (by rw [i2]; omega), if_neg (by rw [i3]; omega), if_neg (by rw [i4]; omega), if_neg (by rw [i5]; omega), if_neg (by rw [i6]; omega), decide_eq_true hc]; rfl
    · rw [decide_eq_false hc]
      have hh : ty = 0 ∨ ty = 1 ∨ ty = 7 ∨ ty = 2 ∨ ty = 3 ∨ ty = 4 ∨ ty = 5 ∨ ty = 6 := by omega
      by_cases c0 : lg_cmp nm 419 = 0
      · rw [if_pos c0]; rfl
      · rw [if_neg c0]
        by_cases c1 : lg_cmp nm 131638 = 0
        · rw [if_pos c1]; rfl
        · rw [if_neg c1]
          by_cases c7 : lg_cmp nm 555 = 0
          · rw [if_pos c7]; rfl
          · rw [if_neg c7]
            by_cases c2 : lg_cmp nm 79 = 0
            · rw [if_pos c2]; rfl
            · rw [if_neg c2]
              by_cases c3 : lg_cmp nm 10284818 = 0
              · rw [if_pos c3]; rfl
              · rw [if_neg c3]
                by_cases c4 : lg_cmp nm 6411385 = 0
                · rw [if_pos c4]; rfl
                · rw [if_neg c4]
                  by_cases c5 : lg_cmp nm 31484543 = 0
                  · rw [if_pos c5]; rfl
                  · rw [if_neg c5]
                    by_cases c6 : lg_cmp nm 12387497 = 0
                    · rw [if_pos c6]; rfl
                    · exfalso
                      rw [i0] at c0; rw [i1] at c1; rw [i2] at c2; rw [i3] at c3; rw [i4] at c4; rw [i5] at c5; rw [i6] at c6; rw [i7] at c7
                      omega
  · have e2 : ¬ nI (kT n (ty)) = (2 : Int32) := fun z => h8 (kT_2.mp ((kd_eq (c := 2) (by omega)).mp z))
    rw [if_neg e2, decide_eq_false (by omega)]; rfl
/-! happening -/
theorem solid_C {a : Nat → Int32} {B : Nat → Nat} {n : Nat} (hn : n ≤ 440) (hB : BY a n B) : ∃ s, isSk B n 0 s ∧ f_X7_firstSolid (nI n) a = some (nI s) := by
  obtain ⟨t, ht, hp⟩ := lp_rule (body := f_X7_firstSolid_l2 (nI n) a) (fun sg => ∃ s : Nat, s ≤ n ∧ sg = nI s ∧ ∀ j, j < s → blk (B j) = true) (fun sg => n - sg.toNatClampNeg) (fun t => Sum.elim (fun _ => ∀ j, j < n → blk (B j) = true) (fun r => ∃ s, s < n ∧ r = nI s ∧ blk (B s) = false ∧ ∀ j, j < s → blk (B j) = true) t)
    (by
      intro sg hinv
      obtain ⟨s, hs, rfl, h3⟩ := hinv
      unfold f_X7_firstSolid_l2
      by_cases hlt : s < n
      · obtain ⟨b1, b2⟩ := hB s hlt
        rw [if_neg (nI_ge hlt (by omega)), blank_C (by omega) b1 b2]
        simp only [bs]
        cases hb : blk (B s) with
        | false => rw [ob_0, if_pos rfl]; exact Or.inr ⟨_, rfl, s, hlt, rfl, hb, h3⟩
        | true =>
          rw [ob_1, if_neg (show ¬ (1 : Int32) = 0 by decide)]
          exact Or.inl ⟨_, rfl, ⟨s + 1, hlt, by rw [← nI_1], ball_suc.mpr ⟨h3, hb⟩⟩, by rw [nI_1, nI_clamp (by omega), nI_clamp (by omega)]; omega⟩
      · obtain rfl : s = n := by omega
        rw [if_pos (nI_le (Nat.le_refl _) (by omega))]
        exact Or.inr ⟨_, rfl, h3⟩)
    gFU 0 ⟨0, Nat.zero_le _, nI_0.symm, fun j hj => absurd hj (Nat.not_lt_zero j)⟩ (by show n - (0 : Int32).toNatClampNeg < 100000; omega)
  unfold f_X7_firstSolid
  rw [ht]; simp only [bs]
  cases t with
  | inl x => exact ⟨n, ⟨Nat.zero_le _, Nat.le_refl _, fun j _ hj => hp j hj, fun z => absurd z (Nat.lt_irrefl _)⟩, rfl⟩
  | inr r =>
    obtain ⟨s, h1, h2, h3, h4⟩ := hp
    exact ⟨s, ⟨Nat.zero_le _, Nat.le_of_lt h1, fun j _ hj => h4 j hj, fun _ => h3⟩, by rw [← h2]; rfl⟩
theorem after_C {a : Nat → Int32} {B : Nat → Nat} {n s : Nat} (hn : n ≤ 440) (hB : BY a n B) (hs : s ≤ n) : ∃ e, s ≤ e ∧ e ≤ n ∧ (∀ j, e ≤ j → j < n → blk (B j) = true) ∧ (s < e → blk (B (e - 1)) = false) ∧ f_X7_afterSolid (nI n) a (nI s) = some (nI e) := by
  obtain ⟨t, ht, hp⟩ := lp_rule (body := f_X7_afterSolid_l5 (nI n) a (nI s)) (fun sg => ∃ e : Nat, s ≤ e ∧ e ≤ n ∧ sg = nI e ∧ ∀ j, e ≤ j → j < n → blk (B j) = true) (fun sg => sg.toNatClampNeg) (fun t => Sum.elim (fun _ => ∀ j, s ≤ j → j < n → blk (B j) = true) (fun r => ∃ e, s < e ∧ e ≤ n ∧ r = nI e ∧ blk (B (e - 1)) = false ∧ ∀ j, e ≤ j → j < n → blk (B j) = true) t)
    (by
      intro sg hinv
      obtain ⟨e, h1, h2, rfl, h3⟩ := hinv
      unfold f_X7_afterSolid_l5
      by_cases hlt : s < e
      · obtain ⟨b1, b2⟩ := hB (e - 1) (by omega)
        have esub : nI e - 1 = nI (e - 1) := by rw [show (1 : Int32) = nI 1 from rfl, pk_sub (by omega)]
        have esub2 : nI e + (-1) = nI (e - 1) := by rw [← esub, Int32.sub_eq_add_neg]
        rw [if_neg (nI_ge hlt (by omega)), esub, esub2, blank_C (by omega) b1 b2]
        simp only [bs]
        cases hb : blk (B (e - 1)) with
        | false => rw [ob_0, if_pos rfl]; exact Or.inr ⟨_, rfl, e, hlt, h2, rfl, hb, h3⟩
        | true =>
          rw [ob_1, if_neg (show ¬ (1 : Int32) = 0 by decide)]
          refine Or.inl ⟨_, rfl, ⟨e - 1, by omega, by omega, rfl, fun j j1 j2 => ?_⟩, by rw [nI_clamp (by omega), nI_clamp (by omega)]; omega⟩
          by_cases hj : j = e - 1
          · subst hj; exact hb
          · exact h3 j (by omega) j2
      · obtain rfl : e = s := by omega
        rw [if_pos (nI_le (Nat.le_refl _) (by omega))]
        exact Or.inr ⟨_, rfl, h3⟩)
    gFU (nI n) ⟨n, hs, Nat.le_refl _, rfl, fun j j1 j2 => by omega⟩ (by show (nI n).toNatClampNeg < 100000; rw [nI_clamp (by omega)]; omega)
  unfold f_X7_afterSolid
  rw [ht]; simp only [bs]
  cases t with
  | inl x => exact ⟨s, Nat.le_refl _, hs, hp, fun z => absurd z (Nat.lt_irrefl _), rfl⟩
  | inr r =>
    obtain ⟨e, h1, h2, h3, h4, h5⟩ := hp
    exact ⟨e, Nat.le_of_lt h1, h2, h5, fun _ => h4, by rw [← h3]; rfl⟩
/-- what happening() finds: what is between the blanks, as a name -/
def hpS (B : Nat → Nat) (n : Nat) (NL : List (List Nat)) (r : Int32) : Prop := ∀ s e, isSk B n 0 s → s ≤ e → e ≤ n → (∀ j, e ≤ j → j < n → blk (B j) = true) → (s < e → blk (B (e - 1)) = false) → r = oH (fx NL (bts B s (e - s)))
theorem hpS_one {a : Nat → Int32} {B : Nat → Nat} {n : Nat} (hn : n ≤ 440) (hB : BY a n B) {NL : List (List Nat)} {r r' : Int32} (h : hpS B n NL r) (h' : hpS B n NL r') : r = r' := by
  obtain ⟨s, hs, -⟩ := solid_C hn hB
  obtain ⟨e, e1, e2, e3, e4, -⟩ := after_C hn hB hs.2.1
  rw [h s e hs e1 e2 e3 e4, h' s e hs e1 e2 e3 e4]
theorem end_one {B : Nat → Nat} {n s e e' : Nat} (h1 : s ≤ e) (h2 : e ≤ n) (h3 : ∀ j, e ≤ j → j < n → blk (B j) = true) (h4 : s < e → blk (B (e - 1)) = false) (h1' : s ≤ e') (h2' : e' ≤ n) (h3' : ∀ j, e' ≤ j → j < n → blk (B j) = true) (h4' : s < e' → blk (B (e' - 1)) = false) : e = e' := by
  rcases Nat.lt_trichotomy e e' with z | z | z
  · have := h4' (by omega); rw [h3 (e' - 1) (by omega) (by omega)] at this; exact absurd this (by decide)
  · exact z
  · have := h4 (by omega); rw [h3' (e - 1) (by omega) (by omega)] at this; exact absurd this (by decide)
theorem happening_C {a le nl : Nat → Int32} {B : Nat → Nat} {n : Nat} (hn : n ≤ 440) (hB : BY a n B) {NL : List (List Nat)} (hN : nmsOk NL) (hE : encN le nl NL) :
    ∃ q, f_X11_happening (nI n) a (nI NL.length) le nl = some q ∧ hpS B n NL q.1 ∧ q.2 = 0 := by
  obtain ⟨s, hs, es⟩ := solid_C hn hB
  obtain ⟨e, e1, e2, e3, e4, ee⟩ := after_C hn hB hs.2.1
  unfold f_X11_happening
  rw [es]; simp only [bs]
  rw [ee]; simp only [bs]
  rw [pk_sub e1, find_C hn hB hN hE (by omega)]
  refine ⟨_, rfl, fun s' e' hs' a1 a2 a3 a4 => ?_, rfl⟩
  obtain rfl := isSk_one hs hs'
  rw [end_one e1 e2 e3 e4 a1 a2 a3 a4]
theorem blk_al {v : Nat} (h : blk v = true) : aln v = false := by
  have h := of_decide_eq_true h
  unfold aln ltr dig
  rw [decide_eq_false (by omega), decide_eq_false (by omega)]; rfl
theorem happening_R {a : Nat → Int32} {B : Nat → Nat} {n : Nat} (hn : n ≤ 440) (hB : BT a n B) {NL : List (List Nat)} (hN : nmsOk NL) {hp : Nat → Int64} (hE : encH hp NL) (th sz to fr kd nu : Int32) (nm : Int64) :
    ∃ q, f_X12_happening th (nI n) sz to fr kd nu nm (nI NL.length) a hp = some q ∧ hpS B n NL q.1 ∧ q.2.1 = 0 ∧ q.2.2.1 = 0 := by
  have hN1 := hN.1
  obtain ⟨s, hs, es⟩ := blanks_R hn hB (Nat.zero_le n)
  have es : f_X12_blanks (nI n) 0 a = some (nI s) := es
  have hsn := hs.2.1
  -- a name between the blanks is the word at s
  have key : ∀ e, s ≤ e → e ≤ n → (∀ j, e ≤ j → j < n → blk (B j) = true) → ∀ h, fx NL (bts B s (e - s)) = some h → isRn B n s (e - s) ∧ nmOk (bts B s (e - s)) := by
    intro e e1 e2 e3 h hf
    have hok := nms_get hN (fx_some hf).1
    refine ⟨⟨by omega, fun j hj => ?_, fun z => blk_al (e3 _ (by omega) z)⟩, hok⟩
    unfold aln
    rw [all_iff.mp hok.2.2.1 j hj]; rfl
  have none_of : ∀ (e : Nat), s ≤ e → e ≤ n → (∀ j, e ≤ j → j < n → blk (B j) = true) → (∀ h, fx NL (bts B s (e - s)) = some h → False) → (-1 : Int32) = oH (fx NL (bts B s (e - s))) := by
    intro e e1 e2 e3 hno
    cases hf : fx NL (bts B s (e - s)) with
    | none => rfl
    | some h => exact (hno h hf).elim
  unfold f_X12_happening
  rw [es]; simp only [bs]
  by_cases hlt : s < n
  · obtain ⟨b1, b2⟩ := hB s hlt
    rw [if_neg (nI_ge hlt (by omega)), gIn_of (vp_in_nI (by omega) (by omega)), nI_clamp (by omega), b2, letter_R b1]
    simp only [bs]
    cases hl : ltr (B s) with
    | false =>
      rw [ob_0, if_pos rfl]
      refine ⟨_, rfl, fun s' e' hs' a1 a2 a3 a4 => ?_, rfl, rfl⟩
      obtain rfl := isSk_one hs hs'
      refine none_of e' a1 a2 a3 (fun h hf => ?_)
      obtain ⟨k1, k2⟩ := key e' a1 a2 a3 h hf
      have k3 := k2.1
      rw [bts_len] at k3
      have := all_iff.mp k2.2.2.1 0 (by omega)
      rw [Nat.add_zero, hl] at this; exact absurd this (by decide)
    | true =>
      rw [ob_1, if_neg (show ¬ (1 : Int32) = 0 by decide)]
      obtain ⟨q, r, hr, hr1, eq, q1, q2, q3, q4⟩ := word_R hn hB hlt (show aln (B s) = true by unfold aln; rw [hl]; rfl) kd nu nm
      rw [eq]; simp only [bs]
      have hkT : q.2.1 = nI (kT n (tyOf (bts B s r))) := by rw [q2]; unfold kT; rw [if_neg (ty_n11 _)]
      have hty : tyOf (bts B s r) ≤ 8 → (bts B s r).all ltr = true ∧ tyOf (bts B s r) = kwO (bts B s r) := fun h => ⟨(ty8 h).1, (ty8 h).2.2⟩
      rw [hkT, free_T hty q3]
      simp only [bs]
      by_cases h8 : tyOf (bts B s r) = 8
      · rw [decide_eq_true h8, ob_1, if_neg (show ¬ (1 : Int32) = 0 by decide), q1]
        have hrn := hr.1
        obtain ⟨s2, hs2, es2⟩ := blanks_R hn hB (show s + r ≤ n by omega)
        rw [es2]; simp only [bs]
        have hs2n := hs2.2.1
        by_cases hlt2 : s2 < n
        · rw [if_neg (nI_ge hlt2 (by omega))]
          refine ⟨_, rfl, fun s' e' hs' a1 a2 a3 a4 => ?_, rfl, rfl⟩
          obtain rfl := isSk_one hs hs'
          refine none_of e' a1 a2 a3 (fun h hf => ?_)
          obtain ⟨k1, k2⟩ := key e' a1 a2 a3 h hf
          have er := isRn_one hr k1
          have := hs2.2.2.2 hlt2
          rw [a3 s2 (by have := hs2.1; omega) hlt2] at this
          exact absurd this (by decide)
        · rw [if_pos (nI_le (by omega) (by omega))]
          have hnm : (bts B s r).all ltr = true := (hty (by omega)).1
          have hfind := find_R hN hE hnm (q3 (by omega))
          unfold f_X12_find at hfind
          obtain ⟨t, ht, hq⟩ := lp_rule (body := f_X12_happening_l100 0 0 (nI n) (nI s2) (nI s) (nI (kT n (tyOf (bts B s r)))) q.2.2.1 q.2.2.2 (nI NL.length) a hp q.2.2.2) (fun sg => ∃ h : Nat, h ≤ NL.length ∧ sg = nI h ∧ ∀ j, j < h → NL[j]? ≠ some (bts B s r)) (fun sg => NL.length - sg.toNatClampNeg) (fun t => Sum.elim (fun _ => fx NL (bts B s r) = none) (fun z => oH (fx NL (bts B s r)) = z.1 ∧ z.2.1 = 0 ∧ z.2.2.1 = 0) t)
            (by
              intro sg hinv
              obtain ⟨h, hh, rfl, hne⟩ := hinv
              unfold f_X12_happening_l100
              by_cases hlt : h < NL.length
              · obtain ⟨m, hm2⟩ : ∃ m, NL[h]? = some m := ⟨_, List.getElem?_eq_getElem hlt⟩
                obtain ⟨o1, o2, o3, o4⟩ := nms_get hN hm2
                rw [if_neg (nI_ge hlt (by omega)), gIn_of (vp_in_nI (by omega) (by omega)), nI_clamp (by omega)]
                have hiff : lg_cmp (hp h) q.2.2.2 = 0 ↔ m = bts B s r := by
                  rw [lg_0, l_eq, hE h m hm2, q3 (by omega), ← nm_eq o3 hnm]; omega
                by_cases hc : m = bts B s r
                · rw [if_pos (hiff.mpr hc)]
                  refine Or.inr ⟨_, rfl, ?_, rfl, rfl⟩
                  show oH (fx NL (bts B s r)) = nI h
                  rw [fx_of (by rw [hm2, hc]) hne]; rfl
                · rw [if_neg (fun z => hc (hiff.mp z))]
                  refine Or.inl ⟨_, rfl, ⟨h + 1, hlt, by rw [← nI_1], fun j hj => ?_⟩, by rw [nI_1, nI_clamp (by omega)]; omega⟩
                  by_cases hjh : j < h
                  · exact hne j hjh
                  · obtain rfl : j = h := by omega
                    rw [hm2]; intro z; exact hc (Option.some.inj z)
              · obtain rfl : h = NL.length := by omega
                rw [if_pos (nI_le (Nat.le_refl _) (by omega))]
                exact Or.inr ⟨_, rfl, fx_no hne⟩)
            gFU 0 ⟨0, by omega, nI_0.symm, fun j hj => absurd hj (Nat.not_lt_zero j)⟩ (by show NL.length - (0 : Int32).toNatClampNeg < 100000; omega)
          rw [ht]; simp only [bs]
          have hend : ∀ e', s ≤ e' → e' ≤ n → (∀ j, e' ≤ j → j < n → blk (B j) = true) → (s < e' → blk (B (e' - 1)) = false) → e' - s = r := by
            intro e' a1 a2 a3 a4
            have := end_one (B := B) (n := n) (s := s) (e := s + r) (by omega) hrn (fun j j1 j2 => hs2.2.2.1 j j1 (by omega)) (fun _ => by
              cases hb : blk (B (s + r - 1)) with
              | false => rfl
              | true =>
                have h1 := blk_al hb
                have h2 := hr.2.1 (r - 1) (by omega)
                rw [show s + (r - 1) = s + r - 1 by omega, h1] at h2; exact absurd h2 (by decide)) a1 a2 a3 a4
            omega
          cases t with
          | inl x =>
            refine ⟨_, rfl, fun s' e' hs' a1 a2 a3 a4 => ?_, rfl, rfl⟩
            obtain rfl := isSk_one hs hs'
            rw [hend e' a1 a2 a3 a4, show fx NL (bts B s r) = none from hq]; rfl
          | inr z =>
            refine ⟨_, rfl, fun s' e' hs' a1 a2 a3 a4 => ?_, hq.2.1, hq.2.2⟩
            obtain rfl := isSk_one hs hs'
            rw [hend e' a1 a2 a3 a4]; exact hq.1.symm
      · rw [decide_eq_false h8, ob_0, if_pos rfl]
        refine ⟨_, rfl, fun s' e' hs' a1 a2 a3 a4 => ?_, rfl, rfl⟩
        obtain rfl := isSk_one hs hs'
        refine none_of e' a1 a2 a3 (fun h hf => h8 ?_)
        obtain ⟨k1, k2⟩ := key e' a1 a2 a3 h hf
        rw [isRn_one hr k1]
        obtain ⟨m1, m2, m3, m4⟩ := k2
        have hhd : ltr ((bts B s (e' - s)).headD 0) = true := by
          have h1 : 1 ≤ e' - s := by rw [bts_len] at m1; exact m1
          have := bts_get (B := B) (s := s) (show 0 < e' - s by omega)
          rw [List.headD_eq_head?_getD, List.head?_eq_getElem?, this]
          show ltr (B (s + 0)) = true
          rw [Nat.add_zero]; exact hl
        rw [ty_ltr hhd (fun z => by rw [z] at m1; simp at m1), if_pos ⟨m3, m2⟩]; exact m4
  · rw [if_pos (nI_le (by omega) (by omega))]
    refine ⟨_, rfl, fun s' e' hs' a1 a2 a3 a4 => ?_, rfl, rfl⟩
    obtain rfl := isSk_one hs hs'
    refine none_of e' a1 a2 a3 (fun h hf => ?_)
    obtain ⟨k1, k2⟩ := key e' a1 a2 a3 h hf
    have k3 := k2.1
    rw [bts_len] at k3
    omega
