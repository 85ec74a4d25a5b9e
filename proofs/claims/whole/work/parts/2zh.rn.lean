/-! names as numbers: one to one -/
theorem nm_pos {l : List Nat} (h : l.all ltr = true) (hl : l ≠ []) : 1 ≤ nmN l := by
  rcases List.eq_nil_or_concat l with rfl | ⟨r, c, rfl⟩
  · exact absurd rfl hl
  · rw [List.concat_eq_append] at h hl ⊢
    rw [nmN_app]
    rw [List.all_append, Bool.and_eq_true] at h
    have hc := h.2
    rw [List.all_cons, List.all_nil, Bool.and_true] at hc
    have := ltr_iff.mp hc
    omega
theorem nm_inj : ∀ (k : Nat) (l l' : List Nat), l.length = k → l.all ltr = true → l'.all ltr = true → nmN l = nmN l' → l = l'
  | 0, l, l', hk, h1, h2, he => by
    obtain rfl : l = [] := List.length_eq_zero_iff.mp hk
    by_cases hl : l' = []
    · exact hl.symm
    · have := nm_pos h2 hl
      have e0 : nmN [] = 0 := rfl
      omega
  | k + 1, l, l', hk, h1, h2, he => by
    rcases List.eq_nil_or_concat l with rfl | ⟨r, c, rfl⟩
    · simp at hk
    · rcases List.eq_nil_or_concat l' with rfl | ⟨r', c', rfl⟩
      · have := nm_pos h1 (by simp [List.concat_eq_append])
        have e0 : nmN [] = 0 := rfl
        omega
      · rw [List.concat_eq_append] at h1 h2 hk he ⊢
        rw [List.concat_eq_append] at he ⊢
        rw [nmN_app, nmN_app] at he
        rw [List.all_append, Bool.and_eq_true] at h1 h2
        have hc := h1.2
        have hc' := h2.2
        rw [List.all_cons, List.all_nil, Bool.and_true] at hc hc'
        have b1 := ltr_iff.mp hc
        have b2 := ltr_iff.mp hc'
        have e1 : c = c' := by omega
        have e2 : nmN r = nmN r' := by omega
        have hr : r.length = k := by simp at hk; exact hk
        rw [nm_inj k r r' hr h1.1 h2.1 e2, e1]
theorem nm_eq {l l' : List Nat} (h1 : l.all ltr = true) (h2 : l'.all ltr = true) : nmN l = nmN l' ↔ l = l' := ⟨nm_inj l.length l l' rfl h1 h2, fun h => by rw [h]⟩
def kwW : Nat → Int64
  | 0 => 419
  | 1 => 131638
  | 2 => 79
  | 3 => 10284818
  | 4 => 6411385
  | 5 => 31484543
  | 6 => 12387497
  | 7 => 555
  | _ => 0
theorem kwW_i : ∀ w, w < 8 → (kwW w).toInt = (nmN (kws w) : Int) := by decide +kernel
theorem kws_l : ∀ w, w < 8 → (kws w).all ltr = true := by decide +kernel
theorem kwO_k : ∀ w, w < 8 → kwO (kws w) = w := by decide +kernel
theorem kwO_inv {l : List Nat} {w : Nat} (hw : w < 8) : kwO l = w ↔ l = kws w := by
  refine ⟨fun h => ?_, fun h => by rw [h]; exact kwO_k w hw⟩
  unfold kwO at h
  split at h
  · rw [← h]; assumption
  · split at h
    · rw [← h]; assumption
    · split at h
      · rw [← h]; assumption
      · split at h
        · rw [← h]; assumption
        · split at h
          · rw [← h]; assumption
          · split at h
            · rw [← h]; assumption
            · split at h
              · rw [← h]; assumption
              · split at h
                · rw [← h]; assumption
                · omega
theorem lg_0 (x y : Int64) : lg_cmp x y = 0 ↔ x = y := by
  unfold lg_cmp
  by_cases h1 : x > y
  · rw [if_pos h1]
    refine ⟨fun z => absurd z (by decide), fun z => ?_⟩
    subst z
    exact absurd h1 (by rw [gt_iff_lt, Int64.lt_iff_toInt_lt]; omega)
  · rw [if_neg h1]
    by_cases h2 : x = y
    · rw [if_pos h2]; exact ⟨fun _ => h2, fun _ => rfl⟩
    · rw [if_neg h2]; exact ⟨fun z => absurd z (by decide), fun z => absurd z h2⟩
theorem l_eq {x y : Int64} : x = y ↔ x.toInt = y.toInt := Int64.toInt_inj.symm
section RR
variable {a : Nat → Int32} {B : Nat → Nat} {n : Nat} {L : List (Nat × Nat)}
theorem bt_l (hL : tkE B n L) {i : Nat} (h : tyT B L i ≤ 8) : (btT B L i).all ltr = true ∧ tyT B L i = kwO (btT B L i) ∧ i < L.length := by
  obtain ⟨h1, s, l, h2, h3, h4⟩ := tok_of (w := tyT B L i) rfl (by omega)
  obtain ⟨g1, g2, g3⟩ := ty8 (show tyOf (bts B s l) ≤ 8 by omega)
  rw [h4]
  exact ⟨g1, by omega, h1⟩
theorem kT_2 {ty : Nat} : kT n ty = 2 ↔ ty ≤ 8 := by
  unfold kT kR
  by_cases h : ty = 11
  · rw [if_pos h]; split <;> omega
  · rw [if_neg h]
    repeat' split
    all_goals omega
theorem kT_3 {ty : Nat} : kT n ty = 3 ↔ ty = 9 := by
  unfold kT kR
  by_cases h : ty = 11
  · rw [if_pos h]; split <;> omega
  · rw [if_neg h]
    repeat' split
    all_goals omega
theorem kT_4 {ty : Nat} : kT n ty = 4 ↔ ty = 10 := by
  unfold kT kR
  by_cases h : ty = 11
  · rw [if_pos h]; split <;> omega
  · rw [if_neg h]
    repeat' split
    all_goals omega
theorem kT_0 {ty : Nat} : kT n ty = 0 ↔ ty = 11 ∧ n ≤ 400 := by
  unfold kT kR
  by_cases h : ty = 11
  · rw [if_pos h]; split <;> omega
  · rw [if_neg h]
    repeat' split
    all_goals omega
theorem kT_lt {ty : Nat} : kT n ty < 5 := by
  unfold kT kR
  repeat' split
  all_goals omega
theorem kd_eq {ty c : Nat} (hc : c < 5) : nI (kT n ty) = nI c ↔ kT n ty = c := by
  have := kT_lt (n := n) (ty := ty)
  exact nI_eq (by omega) (by omega)
theorem key_R (hL : TKS B n L) {i : Nat} {to fr kd nu : Int32} {nm : Int64} (h : refAt B n L i to fr kd nu nm) {w : Nat} (hw : w < 8) : f_X12_isKey kd nm (kwW w) = some (ob (decide (tyT B L i = w))) := by
  obtain ⟨r1, r2, r3, r4, r5⟩ := h
  unfold f_X12_isKey
  rw [r2]
  by_cases h8 : tyT B L i ≤ 8
  · have e2 : nI (kT n (tyT B L i)) = (2 : Int32) := (kd_eq (c := 2) (by omega)).mpr (kT_2.mpr h8)
    rw [if_pos e2]
    obtain ⟨b1, b2, b3⟩ := bt_l hL.1 h8
    have hiff : lg_cmp nm (kwW w) = 0 ↔ tyT B L i = w := by
      rw [lg_0, l_eq, r3 h8, kwW_i w hw, b2, kwO_inv hw, ← nm_eq b1 (kws_l w hw)]
      omega
    by_cases hc : tyT B L i = w
    · rw [if_pos (hiff.mpr hc), decide_eq_true hc]; rfl
    · rw [if_neg (fun z => hc (hiff.mp z)), decide_eq_false hc]; rfl
  · have e2 : ¬ nI (kT n (tyT B L i)) = (2 : Int32) := fun z => h8 (kT_2.mp ((kd_eq (c := 2) (by omega)).mp z))
    rw [if_neg e2, decide_eq_false (by omega)]; rfl
theorem free_R (hL : TKS B n L) {i : Nat} {to fr kd nu : Int32} {nm : Int64} (h : refAt B n L i to fr kd nu nm) : f_X12_isFree kd nm = some (ob (decide (tyT B L i = 8))) := by
  obtain ⟨r1, r2, r3, r4, r5⟩ := h
  unfold f_X12_isFree
  rw [r2]
  by_cases h8 : tyT B L i ≤ 8
  · have e2 : nI (kT n (tyT B L i)) = (2 : Int32) := (kd_eq (c := 2) (by omega)).mpr (kT_2.mpr h8)
    rw [if_pos e2]
    obtain ⟨b1, b2, b3⟩ := bt_l hL.1 h8
    have hiff : ∀ w, w < 8 → (lg_cmp nm (kwW w) = 0 ↔ tyT B L i = w) := by
      intro w hw
      rw [lg_0, l_eq, r3 h8, kwW_i w hw, b2, kwO_inv hw, ← nm_eq b1 (kws_l w hw)]
      omega
    have i0 : lg_cmp nm 419 = 0 ↔ tyT B L i = 0 := hiff 0 (by omega)
    have i1 : lg_cmp nm 131638 = 0 ↔ tyT B L i = 1 := hiff 1 (by omega)
    have i2 : lg_cmp nm 79 = 0 ↔ tyT B L i = 2 := hiff 2 (by omega)
    have i3 : lg_cmp nm 10284818 = 0 ↔ tyT B L i = 3 := hiff 3 (by omega)
    have i4 : lg_cmp nm 6411385 = 0 ↔ tyT B L i = 4 := hiff 4 (by omega)
    have i5 : lg_cmp nm 31484543 = 0 ↔ tyT B L i = 5 := hiff 5 (by omega)
    have i6 : lg_cmp nm 12387497 = 0 ↔ tyT B L i = 6 := hiff 6 (by omega)
    have i7 : lg_cmp nm 555 = 0 ↔ tyT B L i = 7 := hiff 7 (by omega)
    by_cases hc : tyT B L i = 8
    · rw [if_neg (by rw [i0]; omega), if_neg (by rw [i1]; omega), if_neg (by rw [i7]; omega), if_neg (by rw [i2]; omega), if_neg (by rw [i3]; omega), if_neg (by rw [i4]; omega), if_neg (by rw [i5]; omega), if_neg (by rw [i6]; omega), decide_eq_true hc]; rfl
    · rw [decide_eq_false hc]
      have hh : tyT B L i = 0 ∨ tyT B L i = 1 ∨ tyT B L i = 7 ∨ tyT B L i = 2 ∨ tyT B L i = 3 ∨ tyT B L i = 4 ∨ tyT B L i = 5 ∨ tyT B L i = 6 := by omega
      by_cases c0 : lg_cmp nm 419 = 0
      · rw [if_pos c0]; rfl
      · rw [if_neg c0]
        by_cases c1 : lg_cmp nm 131638 = 0
        · rw [if_pos c1]; rfl
        · rw [if_neg c1]
          by_cases c7 : lg_cmp nm 555 = 0
          · rw [if_pos c7]; rfl
          · rw [if_neg c7]
            by_cases c2 : lg_cmp nm 79 = 0
            · rw [if_pos c2]; rfl
            · rw [if_neg c2]
              by_cases c3 : lg_cmp nm 10284818 = 0
              · rw [if_pos c3]; rfl
              · rw [if_neg c3]
                by_cases c4 : lg_cmp nm 6411385 = 0
                · rw [if_pos c4]; rfl
                · rw [if_neg c4]
                  by_cases c5 : lg_cmp nm 31484543 = 0
                  · rw [if_pos c5]; rfl
                  · rw [if_neg c5]
                    by_cases c6 : lg_cmp nm 12387497 = 0
                    · rw [if_pos c6]; rfl
                    · exfalso
                      rw [i0] at c0; rw [i1] at c1; rw [i2] at c2; rw [i3] at c3; rw [i4] at c4; rw [i5] at c5; rw [i6] at c6; rw [i7] at c7
                      omega
  · have e2 : ¬ nI (kT n (tyT B L i)) = (2 : Int32) := fun z => h8 (kT_2.mp ((kd_eq (c := 2) (by omega)).mp z))
    rw [if_neg e2, decide_eq_false (by omega)]; rfl
theorem bad_1 (fr kd ft pl : Int32) : f_X12_bad fr kd ft pl 1 = some (0, 1, fr) := by
  unfold f_X12_bad f_X12_bad_b14
  split <;> rfl
theorem bad_k {fr kd ft pl k : Int32} (h : ¬ kd = 1) : f_X12_bad fr kd ft pl k = some (0, k, fr) := by
  unfold f_X12_bad f_X12_bad_b14
  rw [if_neg h]
def numR (B : Nat → Nat) (n : Nat) (L : List (Nat × Nat)) (x : Ft ⊕ (Nat × Nat)) (ft pl : Int32) (q : Int32 × Int32 × Int32 × Int32 × Int32 × Int32 × Int32 × Int64) : Prop := match x with
  | .inl e => q.1 = -1 ∧ q.2.2.2.2.2.1 = nI e.1 ∧ q.2.2.2.2.2.2.1 = nI e.2
  | .inr v => q.1 = nI v.1 ∧ q.2.2.2.2.2.1 = ft ∧ q.2.2.2.2.2.2.1 = pl ∧ refAt B n L v.2 q.2.1 q.2.2.1 q.2.2.2.1 q.2.2.2.2.1 q.2.2.2.2.2.2.2
theorem num_R (hn : n ≤ 440) (hB : BT a n B) (hL : TKS B n L) {i least : Nat} {to fr kd nu : Int32} {nm : Int64} (h : refAt B n L i to fr kd nu nm) (hle : least ≤ 9999) (ft pl : Int32) :
    ∃ q, f_X12_readNumber (nI n) to fr kd nu ft pl nm a (nI least) = some q ∧ numR B n L (pNum B n L i least) ft pl q := by
  obtain ⟨r1, r2, r3, r4, r5⟩ := h
  unfold f_X12_readNumber pNum
  rw [r2, r1]
  by_cases h9 : tyT B L i = 9
  · have e3 : nI (kT n (tyT B L i)) = (3 : Int32) := (kd_eq (c := 3) (by omega)).mpr (kT_3.mpr h9)
    have hlt := (tok_of h9 (by omega)).1
    have hv9 : numV (btT B L i) ≤ 9999 := by
      obtain ⟨h1, s, l, h2, h3, h4⟩ := tok_of h9 (by omega)
      obtain ⟨g1, g2⟩ := ty9 h3
      rw [bts_len] at g2
      have hb := numV_b l (all_iff.mp g1)
      have hp : 10 ^ l ≤ 10 ^ 4 := Nat.pow_le_pow_right (by omega) g2
      rw [h4]; omega
    rw [if_pos e3, if_pos h9, r4 h9, r5 hlt]
    by_cases hv : numV (btT B L i) < least
    · rw [if_neg (nI_ge hv (by omega)), if_pos hv, bad_k (by rw [e3]; decide)]
      exact ⟨_, rfl, rfl, rfl, rfl⟩
    · rw [if_pos (nI_le (Nat.le_of_not_lt hv) (by omega)), if_neg hv]
      obtain ⟨q, eq, hq⟩ := go_R hn hB hL (show i + 1 ≤ L.length by omega) (nI (stT n L i)) (nI (kT n (tyT B L i))) (nI (numV (btT B L i))) nm
      rw [eq]
      exact ⟨_, rfl, rfl, rfl, rfl, hq⟩
  · have e3 : ¬ nI (kT n (tyT B L i)) = (3 : Int32) := fun z => h9 (kT_3.mp ((kd_eq (c := 3) (by omega)).mp z))
    rw [if_neg e3, if_neg h9, bad_1]
    exact ⟨_, rfl, rfl, rfl, rfl⟩
/-- the names as the reference holds them -/
def encH (hp : Nat → Int64) (NL : List (List Nat)) : Prop := ∀ h l, NL[h]? = some l → (hp h).toInt = (nmN l : Int)
theorem find_R {hp : Nat → Int64} {NL : List (List Nat)} (hN : nmsOk NL) (hE : encH hp NL) {nm : Int64} {l : List Nat} (hl : l.all ltr = true) (hm : nm.toInt = (nmN l : Int)) : f_X12_find nm hp (nI NL.length) = some (oH (fx NL l)) := by
  have hN1 := hN.1
  obtain ⟨t, ht, hq⟩ := lp_rule (body := f_X12_find_l2 nm hp (nI NL.length)) (fun sg => ∃ h : Nat, h ≤ NL.length ∧ sg = nI h ∧ ∀ j, j < h → NL[j]? ≠ some l) (fun sg => NL.length - sg.toNatClampNeg) (fun t => Sum.elim (fun _ => fx NL l = none) (fun r => oH (fx NL l) = r) t)
    (by
      intro sg hinv
      obtain ⟨h, hh, rfl, hne⟩ := hinv
      unfold f_X12_find_l2
      by_cases hlt : h < NL.length
      · obtain ⟨m, hm2⟩ : ∃ m, NL[h]? = some m := ⟨_, List.getElem?_eq_getElem hlt⟩
        obtain ⟨o1, o2, o3, o4⟩ := nms_get hN hm2
        rw [if_neg (nI_ge hlt (by omega)), gIn_of (vp_in_nI (by omega) (by omega)), nI_clamp (by omega)]
        have hiff : lg_cmp (hp h) nm = 0 ↔ m = l := by
          rw [lg_0, l_eq, hE h m hm2, hm, ← nm_eq o3 hl]; omega
        by_cases hc : m = l
        · rw [if_pos (hiff.mpr hc)]
          refine Or.inr ⟨_, rfl, ?_⟩
          show oH (fx NL l) = nI h
          rw [fx_of (by rw [hm2, hc]) hne]; rfl
        · rw [if_neg (fun z => hc (hiff.mp z))]
          refine Or.inl ⟨_, rfl, ⟨h + 1, hlt, by rw [← nI_1], fun j hj => ?_⟩, by rw [nI_1, nI_clamp (by omega)]; omega⟩
          by_cases hjh : j < h
          · exact hne j hjh
          · obtain rfl : j = h := by omega
            rw [hm2]; intro z; exact hc (Option.some.inj z)
      · obtain rfl : h = NL.length := by omega
        rw [if_pos (nI_le (Nat.le_refl _) (by omega))]
        exact Or.inr ⟨_, rfl, fx_no hne⟩)
    gFU 0 ⟨0, by omega, nI_0.symm, fun j hj => absurd hj (Nat.not_lt_zero j)⟩ (by show NL.length - (0 : Int32).toNatClampNeg < 100000; omega)
  unfold f_X12_find
  rw [ht]; simp only [bs]
  cases t with
  | inl x => rw [show fx NL l = none from hq]; rfl
  | inr r => rw [show oH (fx NL l) = r from hq]; rfl
def hapR (B : Nat → Nat) (n : Nat) (L : List (Nat × Nat)) (x : Ft ⊕ (Nat × List (List Nat) × Nat)) (NL : List (List Nat)) (ft pl : Int32) (q : Int32 × Int32 × Int32 × Int32 × Int32 × Int32 × Int32 × Int64 × Int32 × (Nat → Int64)) : Prop := match x with
  | .inl e => q.1 = -1 ∧ q.2.2.2.2.2.1 = nI e.1 ∧ q.2.2.2.2.2.2.1 = nI e.2 ∧ q.2.2.2.2.2.2.2.2.1 = nI NL.length ∧ encH q.2.2.2.2.2.2.2.2.2 NL
  | .inr v => q.1 = nI v.1 ∧ q.2.2.2.2.2.1 = ft ∧ q.2.2.2.2.2.2.1 = pl ∧ q.2.2.2.2.2.2.2.2.1 = nI v.2.1.length ∧ encH q.2.2.2.2.2.2.2.2.2 v.2.1 ∧ refAt B n L v.2.2 q.2.1 q.2.2.1 q.2.2.2.1 q.2.2.2.2.1 q.2.2.2.2.2.2.2.1
theorem hap_R (hn : n ≤ 440) (hB : BT a n B) (hL : TKS B n L) {NL : List (List Nat)} (hN : nmsOk NL) {hp : Nat → Int64} (hE : encH hp NL) {i : Nat} {to fr kd nu : Int32} {nm : Int64} (h : refAt B n L i to fr kd nu nm) (ft pl : Int32) (but : Option Nat) (hbut : ∀ b, but = some b → b < NL.length) :
    ∃ q, f_X12_readHappening (nI n) to fr kd nu ft pl nm (nI NL.length) a hp (oH but) = some q ∧ hapR B n L (pHap B n L NL i but) NL ft pl q := by
  have hfree := free_R hL h
  have hN1 := hN.1
  obtain ⟨r1, r2, r3, r4, r5⟩ := h
  unfold f_X12_readHappening pHap
  rw [hfree]
  simp only [bs]
  by_cases h8 : tyT B L i = 8
  · obtain ⟨b1, b2, b3⟩ := bt_l hL.1 (show tyT B L i ≤ 8 by omega)
    have e2 : kd = 2 := by rw [r2]; exact (kd_eq (c := 2) (by omega)).mpr (kT_2.mpr (by omega))
    have hk1 : ¬ kd = 1 := by rw [e2]; decide
    rw [decide_eq_true h8, ob_1, if_neg (show ¬ (1 : Int32) = 0 by decide), if_pos h8, find_R hN hE b1 (r3 (by omega))]
    simp only [bs]
    unfold f_X12_readHappening_b42 f_X12_readHappening_b89
    obtain ⟨g, eg, hg⟩ := go_R hn hB hL (show i + 1 ≤ L.length by omega) fr kd nu nm
    rw [r5 b3, eg]
    simp only [bs]
    rw [bad_k hk1, bad_k hk1]
    simp only [bs]
    cases hf : fx NL (btT B L i) with
    | some k =>
      have hk := (List.getElem?_eq_some_iff.mp (fx_some hf).1).1
      have hne : ¬ oH (some k) = -1 := nI_n1 (v := k) (by omega)
      rw [if_neg hne]
      by_cases hb : but = some k
      · rw [if_pos (by rw [hb])]
        refine ⟨_, rfl, ?_⟩
        show hapR B n L (if but = some k then _ else _) _ _ _ _
        rw [if_pos hb]
        exact ⟨rfl, rfl, r1, rfl, hE⟩
      · have hbn : ¬ oH (some k) = oH but := by
          cases but with
          | none => exact hne
          | some b =>
            intro z
            have hb2 := hbut b rfl
            exact hb (by rw [(nI_eq (by omega) (by omega)).mp z])
        rw [if_neg hbn, if_neg hne]
        refine ⟨_, rfl, ?_⟩
        show hapR B n L (if but = some k then _ else _) _ _ _ _
        rw [if_neg hb]
        exact ⟨rfl, rfl, rfl, rfl, hE, hg⟩
    | none =>
      rw [if_pos (show oH none = -1 from rfl), if_pos (show oH none = -1 from rfl)]
      by_cases h20 : NL.length = 20
      · rw [if_pos (show nI NL.length = (20 : Int32) by rw [h20]; rfl)]
        refine ⟨_, rfl, ?_⟩
        show hapR B n L (if NL.length = 20 then _ else _) _ _ _ _
        rw [if_pos h20]
        exact ⟨rfl, rfl, r1, rfl, hE⟩
      · rw [if_neg (show ¬ nI NL.length = (20 : Int32) from fun z => h20 ((nI_eq (b := 20) (by omega) (by omega)).mp z)), gIn_of (vp_in_nI (by omega) (by omega)), nI_clamp (by omega), nI_1]
        refine ⟨_, rfl, ?_⟩
        show hapR B n L (if NL.length = 20 then _ else _) _ _ _ _
        rw [if_neg h20]
        refine ⟨rfl, rfl, rfl, by simp, fun j l hj => ?_, hg⟩
        show (vp_updL hp NL.length nm j).toInt = _
        rcases app_get hj with ⟨z1, z2⟩ | ⟨z1, z2⟩
        · rw [pk_uLn (by omega)]; exact hE j l z2
        · subst z2; rw [z1, pk_uLs]; exact r3 (by omega)
  · rw [decide_eq_false h8, ob_0, if_pos rfl, if_neg h8, bad_1]
    exact ⟨_, rfl, rfl, rfl, r1, rfl, hE⟩
def spanR (B : Nat → Nat) (n : Nat) (L : List (Nat × Nat)) (x : Ft ⊕ (Nat × Option Nat × Nat)) (p : Nat) (ft pl : Int32) (q : Int32 × Int32 × Int32 × Int32 × Int32 × Int32 × Int32 × Int64 × (Nat → Int32) × (Nat → Int32)) : Prop := match x with
  | .inl e => q.1 = 0 ∧ q.2.2.2.2.2.1 = nI e.1 ∧ q.2.2.2.2.2.2.1 = nI e.2
  | .inr v => q.1 = 1 ∧ q.2.2.2.2.2.1 = ft ∧ q.2.2.2.2.2.2.1 = pl ∧ refAt B n L v.2.2 q.2.1 q.2.2.1 q.2.2.2.1 q.2.2.2.2.1 q.2.2.2.2.2.2.2.1 ∧ q.2.2.2.2.2.2.2.2.1 p = nI v.1 ∧ q.2.2.2.2.2.2.2.2.2 p = oI v.2.1
theorem span_R (hn : n ≤ 440) (hB : BT a n B) (hL : TKS B n L) {i least : Nat} {to fr kd nu : Int32} {nm : Int64} (h : refAt B n L i to fr kd nu nm) (hle : least ≤ 9999) (ft pl : Int32) (lo hi : Nat → Int32) {p : Nat} (hp : p < 84) (hhi : hi p = -1) (must : Bool) :
    ∃ q, f_X12_readSpan (nI n) to fr kd nu ft pl nm a lo hi (nI p) (nI least) (ob must) = some q ∧ spanR B n L (pSpan B n L i least must) p ft pl q ∧ (q.1 = 0 ∨ q.1 = 1) ∧ ∀ x, x ≠ p → q.2.2.2.2.2.2.2.2.1 x = lo x ∧ q.2.2.2.2.2.2.2.2.2 x = hi x := by
  obtain ⟨q, eq, hq⟩ := num_R hn hB hL h hle ft pl
  unfold f_X12_readSpan
  rw [eq]; simp only [bs]
  rw [gIn_of (vp_in_nI hp (by omega)), gIn_of (vp_in_nI hp (by omega)), nI_clamp (by omega), upd_s]
  have f2 : ∀ (g : Nat → Int32) (k : Int32) (x : Nat), x ≠ p → upd g p k x = g x := fun g k x hx => upd_n hx
  unfold pSpan
  cases hx : pNum B n L i least with
  | inl e =>
    rw [hx] at hq
    obtain ⟨g1, g2, g3⟩ := hq
    rw [if_pos g1]
    exact ⟨_, rfl, ⟨rfl, g2, g3⟩, Or.inl rfl, fun x hx => ⟨f2 _ _ x hx, rfl⟩⟩
  | inr v =>
    obtain ⟨v, i'⟩ := v
    rw [hx] at hq
    obtain ⟨n1, n2, n3, n4⟩ := num_ok hx
    obtain ⟨g1, g2, g3, g4⟩ := hq
    dsimp only at g1 g4
    rw [if_neg (by rw [g1]; exact nI_n1 (by omega))]
    have hkey : f_X12_isKey q.2.2.2.1 q.2.2.2.2.2.2.2 555 = some (ob (decide (tyT B L i' = 7))) := key_R hL g4 (w := 7) (by omega)
    show ∃ r, _ ∧ spanR B n L (if tyT B L i' = 7 then pb (pNum B n L (i' + 1) v) (fun p => .inr (v, some p.1, p.2)) else if must = true then .inl (1, stT n L i') else .inr (v, none, i')) p ft pl r ∧ _
    have main : tyT B L i' = 7 → ∃ r, f_X12_readSpan_b39 (nI n) q.2.1 q.2.2.1 q.2.2.2.1 q.2.2.2.2.1 q.2.2.2.2.2.1 q.2.2.2.2.2.2.1 q.2.2.2.2.2.2.2 a (upd lo p q.1) hi (nI p) = some r ∧ spanR B n L (pb (pNum B n L (i' + 1) v) (fun p => .inr (v, some p.1, p.2))) p ft pl r ∧ (r.1 = 0 ∨ r.1 = 1) ∧ ∀ x, x ≠ p → r.2.2.2.2.2.2.2.2.1 x = lo x ∧ r.2.2.2.2.2.2.2.2.2 x = hi x := by
      intro h7
      have hlt := (tok_of h7 (by omega)).1
      unfold f_X12_readSpan_b39
      rw [hkey, decide_eq_true h7]
      simp only [bs]
      rw [ob_1, if_neg (show ¬ (1 : Int32) = 0 by decide), g4.2.2.2.2 hlt]
      obtain ⟨y, ey, hy⟩ := go_R hn hB hL (show i' + 1 ≤ L.length by omega) q.2.2.1 q.2.2.2.1 q.2.2.2.2.1 q.2.2.2.2.2.2.2
      rw [ey]; simp only [bs]
      rw [gIn_of (vp_in_nI hp (by omega)), nI_clamp (by omega), upd_s, g1]
      obtain ⟨z, ez, hz⟩ := num_R hn hB hL hy n3 q.2.2.2.2.2.1 q.2.2.2.2.2.2.1
      rw [ez]; simp only [bs]
      rw [gIn_of (vp_in_nI hp (by omega)), gIn_of (vp_in_nI hp (by omega)), upd_s]
      cases hw : pNum B n L (i' + 1) v with
      | inl e =>
        rw [hw] at hz
        obtain ⟨k1, k2, k3⟩ := hz
        rw [if_pos k1]
        exact ⟨_, rfl, ⟨rfl, k2, k3⟩, Or.inl rfl, fun x hx => ⟨f2 _ _ x hx, f2 _ _ x hx⟩⟩
      | inr v2 =>
        obtain ⟨v2, i2⟩ := v2
        rw [hw] at hz
        obtain ⟨m1, m2, m3, m4⟩ := num_ok hw
        obtain ⟨k1, k2, k3, k4⟩ := hz
        dsimp only at k1 k4
        rw [if_neg (by rw [k1]; exact nI_n1 (by omega))]
        refine ⟨_, rfl, ⟨rfl, k2.trans g2, k3.trans g3, k4, upd_s, ?_⟩, Or.inr rfl, fun x hx => ⟨f2 _ _ x hx, f2 _ _ x hx⟩⟩
        show upd hi p z.1 p = nI v2
        rw [upd_s, k1]
    cases must with
    | false =>
      rw [ob_0, if_pos rfl, hkey]
      simp only [bs]
      by_cases h7 : tyT B L i' = 7
      · rw [decide_eq_true h7, ob_1, if_neg (show ¬ (1 : Int32) = 0 by decide), if_pos h7]
        exact main h7
      · rw [decide_eq_false h7, ob_0, if_pos rfl, if_neg h7, if_neg (show ¬ (false = true) by decide)]
        refine ⟨_, rfl, ⟨rfl, g2, g3, g4, ?_, hhi⟩, Or.inr rfl, fun x hx => ⟨f2 _ _ x hx, rfl⟩⟩
        show upd lo p q.1 p = nI v
        rw [upd_s, g1]
    | true =>
      rw [ob_1, if_neg (show ¬ (1 : Int32) = 0 by decide)]
      by_cases h7 : tyT B L i' = 7
      · rw [if_pos h7]
        exact main h7
      · rw [if_neg h7, if_pos rfl]
        unfold f_X12_readSpan_b39
        rw [hkey, decide_eq_false h7]
        simp only [bs]
        rw [ob_0, if_pos rfl, bad_1]
        simp only [bs]
        rw [gB_of (Or.inl rfl)]
        exact ⟨_, rfl, ⟨rfl, rfl, g4.1⟩, Or.inl rfl, fun x hx => ⟨f2 _ _ x hx, rfl⟩⟩
end RR
