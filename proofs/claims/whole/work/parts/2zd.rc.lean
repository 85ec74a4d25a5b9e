/-! the class reads: small pieces -/
theorem tok_of {B : Nat → Nat} {L : List (Nat × Nat)} {i w : Nat} (h : tyT B L i = w) (hw : w ≠ 11) : i < L.length ∧ ∃ s l, L[i]? = some (s, l) ∧ tyOf (bts B s l) = w ∧ btT B L i = bts B s l := by
  unfold tyT at h
  cases hx : L[i]? with
  | none => rw [hx] at h; exact absurd h.symm hw
  | some x =>
    rw [hx] at h
    refine ⟨(List.getElem?_eq_some_iff.mp hx).1, x.1, x.2, rfl, h, ?_⟩
    unfold btT; rw [hx]
theorem ty_i {B : Nat → Nat} {n i : Nat} {L : List (Nat × Nat)} {ty : Nat → Nat} {st ln : Nat → Int32} (hT : encT B n L ty st ln) (hi : i ≤ L.length) : ty i = tyT B L i ∧ st i = nI (stT n L i) := by
  obtain ⟨h1, h2, h3⟩ := hT
  by_cases hlt : i < L.length
  · obtain ⟨⟨s, l⟩, hx⟩ : ∃ x, L[i]? = some x := ⟨_, List.getElem?_eq_getElem hlt⟩
    obtain ⟨a1, a2, a3⟩ := h1 i s l hx
    unfold tyT stT
    rw [hx]
    exact ⟨a1, a2⟩
  · obtain rfl : i = L.length := by omega
    unfold tyT stT
    rw [List.getElem?_eq_none (Nat.le_refl _)]
    exact ⟨h2, h3⟩
theorem tyT_lt (B : Nat → Nat) (L : List (Nat × Nat)) (i : Nat) : tyT B L i < 13 := by
  unfold tyT
  split
  · exact ty_lt _
  · omega
theorem ty9 {l : List Nat} (h : tyOf l = 9) : l.all dig = true ∧ l.length ≤ 4 := by
  unfold tyOf at h
  by_cases c1 : l = [59]
  · rw [if_pos c1] at h; omega
  · rw [if_neg c1] at h
    by_cases c2 : l.all dig = true ∧ l.length ≤ 4
    · exact c2
    · rw [if_neg c2] at h
      have := kwO_le l
      split at h <;> omega
theorem ty8 {l : List Nat} (h : tyOf l ≤ 8) : l.all ltr = true ∧ l.length ≤ 8 ∧ tyOf l = kwO l := by
  unfold tyOf at h ⊢
  by_cases c1 : l = [59]
  · rw [if_pos c1] at h; omega
  · rw [if_neg c1] at h ⊢
    by_cases c2 : l.all dig = true ∧ l.length ≤ 4
    · rw [if_pos c2] at h; omega
    · rw [if_neg c2] at h ⊢
      by_cases c3 : l.all ltr = true ∧ l.length ≤ 8
      · exact ⟨c3.1, c3.2, if_pos c3⟩
      · rw [if_neg c3] at h; omega
theorem tk_pos {B : Nat → Nat} {n s l : Nat} (h : tkl B n s l) : 1 ≤ l := by
  obtain ⟨r, hr, e⟩ := h
  rw [e]; split <;> omega
theorem num_ok {B : Nat → Nat} {n : Nat} {L : List (Nat × Nat)} {i least v i' : Nat} (h : pNum B n L i least = .inr (v, i')) : i < L.length ∧ i' = i + 1 ∧ v ≤ 9999 ∧ least ≤ v := by
  unfold pNum at h
  by_cases h9 : tyT B L i = 9
  · rw [if_pos h9] at h
    by_cases hv : numV (btT B L i) < least
    · rw [if_pos hv] at h; cases h
    · rw [if_neg hv] at h
      cases h
      obtain ⟨h1, s, l, h2, h3, h4⟩ := tok_of h9 (by omega)
      obtain ⟨g1, g2⟩ := ty9 h3
      rw [bts_len] at g2
      have hb := numV_b l (all_iff.mp g1)
      have hp : 10 ^ l ≤ 10 ^ 4 := Nat.pow_le_pow_right (by omega) g2
      rw [h4] at hv ⊢
      exact ⟨h1, rfl, by omega, by omega⟩
  · rw [if_neg h9] at h; cases h
theorem hap_nm {B : Nat → Nat} {n : Nat} {L : List (Nat × Nat)} (hE : tkE B n L) {i : Nat} (h : tyT B L i = 8) : nmOk (btT B L i) := by
  obtain ⟨h1, s, l, h2, h3, h4⟩ := tok_of h (by omega)
  obtain ⟨g1, g2, g3⟩ := ty8 (show tyOf (bts B s l) ≤ 8 by omega)
  rw [h4]
  have := tk_pos (hE i s l h2).2.2.2
  rw [bts_len] at g2
  exact ⟨by rw [bts_len]; exact this, by rw [bts_len]; exact g2, g1, by omega⟩
theorem hap_ok {B : Nat → Nat} {n : Nat} {L : List (Nat × Nat)} (hE : tkE B n L) {NL NL' : List (List Nat)} (hN : nmsOk NL) {i h i' : Nat} {but : Option Nat} (e : pHap B n L NL i but = .inr (h, NL', i')) : i < L.length ∧ i' = i + 1 ∧ nmsOk NL' ∧ NL <+: NL' ∧ h < NL'.length ∧ but ≠ some h ∨ (i < L.length ∧ i' = i + 1 ∧ nmsOk NL' ∧ NL <+: NL' ∧ h < NL'.length ∧ h = NL.length) := by
  unfold pHap at e
  by_cases h8 : tyT B L i = 8
  · rw [if_pos h8] at e
    have hi := (tok_of h8 (by omega)).1
    cases hf : fx NL (btT B L i) with
    | some k =>
      rw [hf] at e
      have e : (if but = some k then Sum.inl (3, stT n L i) else Sum.inr (k, NL, i + 1) : Ft ⊕ (Nat × List (List Nat) × Nat)) = .inr (h, NL', i') := e
      by_cases hb : but = some k
      · rw [if_pos hb] at e; cases e
      · rw [if_neg hb] at e; cases e
        exact Or.inl ⟨hi, rfl, hN, List.prefix_refl _, (List.getElem?_eq_some_iff.mp (fx_some hf).1).1, hb⟩
    | none =>
      rw [hf] at e
      have e : (if NL.length = 20 then Sum.inl (4, stT n L i) else Sum.inr (NL.length, NL ++ [btT B L i], i + 1) : Ft ⊕ (Nat × List (List Nat) × Nat)) = .inr (h, NL', i') := e
      by_cases hb : NL.length = 20
      · rw [if_pos hb] at e; cases e
      · rw [if_neg hb] at e; cases e
        refine Or.inr ⟨hi, rfl, ⟨?_, ?_⟩, List.prefix_append _ _, by simp, rfl⟩
        · have := hN.1; simp; omega
        · intro l hl
          rcases List.mem_append.mp hl with z | z
          · exact hN.2 l z
          · rw [List.mem_singleton] at z; rw [z]; exact hap_nm hE h8
  · rw [if_neg h8] at e; cases e
section RC
variable {a : Nat → Int32} {B : Nat → Nat} {n : Nat} {L : List (Nat × Nat)} {ty : Nat → Nat} {st ln : Nat → Int32}
theorem is_C (hL : TKS B n L) (hT : encT B n L ty st ln) {i w : Nat} (hi : i ≤ L.length) (hw : w < 13) : f_X5_is (nI i) ty w = some (ob (decide (tyT B L i = w))) := by
  have h4 := lim_le n
  have hl := hL.2.1
  unfold f_X5_is
  rw [gIn_of (vp_in_nI (by omega) (by omega)), nI_clamp (by omega), (ty_i hT hi).1, gN_of (tyT_lt B L i), gN_of hw]
  by_cases h : tyT B L i = w
  · rw [if_pos h, decide_eq_true h]; rfl
  · rw [if_neg h, decide_eq_false h]; rfl
theorem ref_C (hL : TKS B n L) (hT : encT B n L ty st ln) {i : Nat} (hi : i ≤ L.length) (fk fp p : Int32) : f_X5_refuse (nI i) fk fp st p = some (0, p, nI (stT n L i)) := by
  have h4 := lim_le n
  have hl := hL.2.1
  unfold f_X5_refuse
  rw [gIn_of (vp_in_nI (by omega) (by omega)), nI_clamp (by omega), (ty_i hT hi).2]
theorem pass_C (hL : TKS B n L) {i : Nat} (hi : i < L.length) : f_X5_pass (nI i) = some (1, nI (i + 1)) := by
  have h4 := lim_le n
  have hl := hL.2.1
  unfold f_X5_pass
  rw [if_neg (show ¬ (400 : Int32) ≤ nI i from nI_ge (a := i) (b := 400) (by omega) (by omega)), nI_1]
def rNum (x : Ft ⊕ (Nat × Nat)) (i : Nat) (fk fp : Int32) : Int32 × Int32 × Int32 × Int32 := match x with
  | .inl e => (-1, nI i, nI e.1, nI e.2)
  | .inr v => (nI v.1, nI v.2, fk, fp)
theorem num_C (hn : n ≤ 440) (hB : BY a n B) (hL : TKS B n L) (hT : encT B n L ty st ln) {i least : Nat} (hi : i ≤ L.length) (hle : least ≤ 9999) (fk fp : Int32) :
    f_X5_readNumber a (nI i) fk fp ty st ln (nI least) = some (rNum (pNum B n L i least) i fk fp) := by
  have h4 := lim_le n
  have hl := hL.2.1
  unfold f_X5_readNumber pNum
  rw [is_C hL hT hi (by omega), ref_C hL hT hi, ref_C hL hT hi]
  simp only [bs]
  by_cases h9 : tyT B L i = 9
  · obtain ⟨hlt, s, l, hx, h3, h5⟩ := tok_of h9 (by omega)
    obtain ⟨g1, g2⟩ := ty9 h3
    rw [bts_len] at g2
    obtain ⟨t1, t2, t3⟩ := hT.1 i s l hx
    obtain ⟨k1, k2, k3, k4⟩ := hL.1 i s l hx
    rw [decide_eq_true h9, ob_1, if_neg (show ¬ (1 : Int32) = 0 by decide), if_pos h9]
    obtain ⟨t, ht, hp⟩ := lp_rule (body := f_X5_readNumber_l22 a (nI i) fk fp ty st ln (nI least)) (fun sg => ∃ k : Nat, k ≤ l ∧ sg.2 = nI k ∧ sg.1 = nI (numV (bts B s k))) (fun sg => l - sg.2.toNatClampNeg) (fun t => t.1 = nI (numV (bts B s l)))
      (by
        intro sg hinv
        obtain ⟨k, hk, e1, e2⟩ := hinv
        unfold f_X5_readNumber_l22
        rw [gIn_of (vp_in_nI (show i < 401 by omega) (by omega)), gIn_of (vp_in_nI (show i < 401 by omega) (by omega)), nI_clamp (show i < 2 ^ 31 by omega), t2, t3, e1, e2]
        by_cases hkl : k < l
        · obtain ⟨b1, b2⟩ := hB (s + k) (by omega)
          have hd := dig_iff.mp (all_iff.mp g1 k hkl)
          have hbn : bI (B (s + k)) = nI (B (s + k)) := by unfold bI; rw [if_pos (by omega)]
          rw [if_neg (nI_ge hkl (by omega)), nI_add, gIn_of (vp_in_nI (show s + k < 440 by omega) (by omega)), nI_clamp (show s + k < 2 ^ 31 by omega), b2, hbn, nv_step hd]
          refine Or.inl ⟨_, rfl, ⟨k + 1, hkl, by rw [← nI_1], by rw [bts_suc, numV_app]⟩, by rw [nI_1, nI_clamp (by omega), nI_clamp (by omega)]; omega⟩
        · obtain rfl : k = l := by omega
          rw [if_pos (nI_le (Nat.le_refl _) (by omega))]
          exact Or.inr ⟨_, rfl, rfl⟩)
      gFU (0, 0) ⟨0, by omega, nI_0.symm, nI_0.symm⟩ (by show l - (0 : Int32).toNatClampNeg < 100000; omega)
    rw [ht]; simp only [bs]
    have hb := numV_b l (all_iff.mp g1)
    have hp10 : 10 ^ l ≤ 10 ^ 4 := Nat.pow_le_pow_right (by omega) g2
    rw [hp, h5]
    by_cases hv : numV (bts B s l) < least
    · rw [if_neg (nI_ge hv (by omega)), if_pos hv]; rfl
    · rw [if_pos (nI_le (Nat.le_of_not_lt hv) (by omega)), if_neg hv, pass_C hL hlt]; rfl
  · rw [decide_eq_false h9, ob_0, if_pos rfl, if_neg h9]; rfl
theorem nI_n1 {v : Nat} (h : v < 2 ^ 31) : ¬ nI v = -1 := by
  intro z
  have := congrArg Int32.toInt z
  rw [nI_toInt h] at this
  have e : (-1 : Int32).toInt = -1 := by decide
  omega
def rFst (x : Ft ⊕ (Nat × Nat)) (i : Nat) (fk fp : Int32) (f : Nat → Int32) (p : Nat) : Int32 × Int32 × Int32 × Int32 × (Nat → Int32) := match x with
  | .inl e => (0, nI i, nI e.1, nI e.2, upd f p (-1))
  | .inr v => (1, nI v.2, fk, fp, upd f p (nI v.1))
theorem first_C (hn : n ≤ 440) (hB : BY a n B) (hL : TKS B n L) (hT : encT B n L ty st ln) {i least : Nat} (hi : i ≤ L.length) (hle : least ≤ 9999) (fk fp : Int32) (f : Nat → Int32) {p : Nat} (hp : p < 84) :
    f_X5_readFirst a (nI i) fk fp ty st ln f p (nI least) = some (rFst (pNum B n L i least) i fk fp f p) := by
  unfold f_X5_readFirst
  rw [num_C hn hB hL hT hi hle]
  simp only [bs]
  rw [gN_of hp, upd_s]
  cases hx : pNum B n L i least with
  | inl e => exact if_pos rfl
  | inr v =>
    obtain ⟨v, i'⟩ := v
    obtain ⟨h1, h2, h3, h4⟩ := num_ok hx
    exact if_neg (nI_n1 (by omega))
def rSec (x : Ft ⊕ (Nat × Nat)) (i : Nat) (fk fp : Int32) (f : Nat → Int32) (p : Nat) (c : Bool) (z : Int32 × Int32 × Int32 × Int32 × (Nat → Int32)) : Int32 × Int32 × Int32 × Int32 × (Nat → Int32) := if c = true then rFst x (i + 1) fk fp f p else z
theorem second_C (hn : n ≤ 440) (hB : BY a n B) (hL : TKS B n L) (hT : encT B n L ty st ln) {i v : Nat} (hi : i ≤ L.length) (hv : v ≤ 9999) (fk fp : Int32) (f g : Nat → Int32) {p : Nat} (hp : p < 84) (hf : f p = nI v) :
    f_X5_readSecond a (nI i) fk fp ty st ln f g p = some (rSec (pNum B n L (i + 1) v) i fk fp g p (decide (tyT B L i = 7)) (0, nI i, 1, nI (stT n L i), g)) := by
  unfold f_X5_readSecond rSec
  rw [is_C hL hT hi (by omega), ref_C hL hT hi]
  simp only [bs]
  by_cases h7 : tyT B L i = 7
  · have hlt := (tok_of h7 (by omega)).1
    rw [decide_eq_true h7, ob_1, if_neg (show ¬ (1 : Int32) = 0 by decide), if_pos rfl, pass_C hL hlt]
    simp only [bs]
    rw [gN_of hp, hf, num_C hn hB hL hT (by omega) hv]
    simp only [bs]
    rw [upd_s]
    cases hx : pNum B n L (i + 1) v with
    | inl e => exact if_pos rfl
    | inr w =>
      obtain ⟨w, i'⟩ := w
      obtain ⟨h1, h2, h3, h4⟩ := num_ok hx
      exact if_neg (nI_n1 (by omega))
  · rw [decide_eq_false h7, ob_0, if_pos rfl, if_neg (by decide)]
    rfl
theorem secIf_C (hn : n ≤ 440) (hB : BY a n B) (hL : TKS B n L) (hT : encT B n L ty st ln) {i v : Nat} (hi : i ≤ L.length) (hv : v ≤ 9999) (fk fp : Int32) (f g : Nat → Int32) {p : Nat} (hp : p < 84) (hf : f p = nI v) :
    f_X5_readSecondIfAny a (nI i) fk fp ty st ln f g p = some (rSec (pNum B n L (i + 1) v) i fk fp g p (decide (tyT B L i = 7)) (1, nI i, fk, fp, g)) := by
  unfold f_X5_readSecondIfAny
  rw [gN_of hp, hf, if_neg (nI_n1 (by omega)), is_C hL hT hi (by omega), second_C hn hB hL hT hi hv fk fp f g hp hf]
  simp only [bs]
  unfold rSec
  by_cases h7 : tyT B L i = 7
  · rw [decide_eq_true h7, ob_1, if_neg (show ¬ (1 : Int32) = 0 by decide), if_pos rfl, if_pos rfl]
    cases hx : pNum B n L (i + 1) v with
    | inl e => exact if_pos rfl
    | inr w => exact if_neg (show ¬ (1 : Int32) = 0 by decide)
  · rw [decide_eq_false h7, ob_0, if_pos rfl, if_neg (by decide)]
theorem stop_C (hL : TKS B n L) (hT : encT B n L ty st ln) {i : Nat} (hi : i ≤ L.length) (fk fp : Int32) :
    f_X5_readStop (nI i) fk fp ty st = some (if tyT B L i = 10 then (1, nI (i + 1), fk, fp) else (0, nI i, 1, nI (stT n L i))) := by
  unfold f_X5_readStop
  rw [is_C hL hT hi (by omega), ref_C hL hT hi]
  simp only [bs]
  by_cases h7 : tyT B L i = 10
  · have hlt := (tok_of h7 (by omega)).1
    rw [decide_eq_true h7, ob_1, if_neg (show ¬ (1 : Int32) = 0 by decide), if_pos h7, pass_C hL hlt]
    rfl
  · rw [decide_eq_false h7, ob_0, if_pos rfl, if_neg h7]
    rfl
theorem gap_C (hn : n ≤ 440) (hB : BY a n B) (hL : TKS B n L) (hT : encT B n L ty st ln) {i : Nat} (hi : i ≤ L.length) (fk fp : Int32) (f : Nat → Int32) {p : Nat} (hp : p < 84) :
    f_X5_readGapIfAny a (nI i) fk fp ty st ln f p = some (if tyT B L i = 2 then rFst (pNum B n L (i + 1) 1) (i + 1) fk fp f p else (1, nI i, fk, fp, f)) := by
  unfold f_X5_readGapIfAny
  rw [is_C hL hT hi (by omega)]
  simp only [bs]
  by_cases h7 : tyT B L i = 2
  · have hlt := (tok_of h7 (by omega)).1
    rw [decide_eq_true h7, ob_1, if_neg (show ¬ (1 : Int32) = 0 by decide), if_pos h7, pass_C hL hlt]
    simp only [bs]
    rw [show (1 : Int32) = nI 1 from rfl, first_C hn hB hL hT (by omega) (by omega) fk fp f hp]
    simp only [bs]
    cases hx : pNum B n L (i + 1) 1 with
    | inl e => rfl
    | inr v => rfl
  · rw [decide_eq_false h7, ob_0, if_pos rfl, if_neg h7]
/-- what a happening's name gives -/
def hapC (x : Ft ⊕ (Nat × List (List Nat) × Nat)) (NL : List (List Nat)) (ok dr he fk fp rs : Int32) (le nl : Nat → Int32) (fk0 fp0 : Int32) : Prop := match x with
  | .inl e => ok = 0 ∧ dr = nI NL.length ∧ encN le nl NL ∧ fk = nI e.1 ∧ fp = nI e.2
  | .inr v => ok = 1 ∧ dr = nI v.2.1.length ∧ encN le nl v.2.1 ∧ he = nI v.2.2 ∧ fk = fk0 ∧ fp = fp0 ∧ rs = nI v.1
theorem other_C (hn : n ≤ 440) (hB : BY a n B) (hL : TKS B n L) (hT : encT B n L ty st ln) {i h : Nat} (hi : i ≤ L.length) {NL : List (List Nat)} (hN : nmsOk NL) {le nl : Nat → Int32} (hE : encN le nl NL) (hh : h < NL.length) (fk fp : Int32) (ow ot : Nat → Int32) {p : Nat} (hp : p < 84) (how : ow p = nI h) :
    ∃ q, f_X5_readOther a (nI NL.length) le nl (nI i) fk fp ty st ln ow ot p = some q ∧ hapC (pHap B n L NL i (some h)) NL q.1 q.2.1 q.2.2.2.2.1 q.2.2.2.2.2.1 q.2.2.2.2.2.2.1 (q.2.2.2.2.2.2.2 p) q.2.2.1 q.2.2.2.1 fk fp ∧ ∀ x, x ≠ p → q.2.2.2.2.2.2.2 x = ot x := by
  have h4 := lim_le n
  have hl := hL.2.1
  have hN1 := hN.1
  unfold f_X5_readOther pHap
  rw [is_C hL hT hi (by omega), ref_C hL hT hi, ref_C hL hT hi, ref_C hL hT hi]
  simp only [bs]
  by_cases h8 : tyT B L i = 8
  · obtain ⟨hlt, s, l, hx, h3, h5⟩ := tok_of h8 (by omega)
    have hnm := hap_nm hL.1 h8
    rw [h5] at hnm
    obtain ⟨t1, t2, t3⟩ := hT.1 i s l hx
    obtain ⟨k1, k2, k3, k4⟩ := hL.1 i s l hx
    rw [decide_eq_true h8, ob_1, if_neg (show ¬ (1 : Int32) = 0 by decide), if_pos h8, gIn_of (vp_in_nI (by omega) (by omega)), gIn_of (vp_in_nI (by omega) (by omega)), nI_clamp (by omega), t2, t3]
    obtain ⟨q, eq, c1, c2, c3⟩ := draft_C hn hB hN hE k3 hnm
    rw [eq]; simp only [bs]
    rw [gN_of hp, gN_of hp, upd_s, how, pass_C hL hlt, h5]
    simp only [bs]
    have fr : ∀ x, x ≠ p → upd ot p q.1 x = ot x := fun x hx => upd_n hx
    cases hf : fx NL (bts B s l) with
    | some k =>
      obtain ⟨d1, d2, d3⟩ := c1 k hf
      have hk := (List.getElem?_eq_some_iff.mp (fx_some hf).1).1
      rw [d1]
      by_cases hkh : k = h
      · subst hkh
        rw [if_pos rfl]
        refine ⟨_, rfl, ?_, by rw [← d1]; exact fr⟩
        show hapC (if some k = some k then _ else _) _ _ _ _ _ _ _ _ _ _ _
        rw [if_pos rfl]
        exact ⟨rfl, d2, d3, rfl, rfl⟩
      · rw [if_neg (fun z => hkh ((nI_eq (by omega) (by omega)).mp z)), if_neg (nI_n1 (by omega))]
        refine ⟨_, rfl, ?_, by rw [← d1]; exact fr⟩
        show hapC (if some h = some k then _ else _) _ _ _ _ _ _ _ _ _ _ _
        rw [if_neg (fun z => hkh (Option.some.inj z).symm)]
        exact ⟨rfl, d2, d3, rfl, rfl, rfl, upd_s⟩
    | none =>
      by_cases h20 : NL.length = 20
      · obtain ⟨d1, d2, d3⟩ := c2 hf h20
        rw [d1, if_neg (fun z => nI_n1 (v := h) (by omega) z.symm), if_pos rfl]
        refine ⟨_, rfl, ?_, by rw [← d1]; exact fr⟩
        show hapC (if NL.length = 20 then _ else _) _ _ _ _ _ _ _ _ _ _ _
        rw [if_pos h20]
        exact ⟨rfl, d2, d3, rfl, rfl⟩
      · obtain ⟨d1, d2, d3⟩ := c3 hf (by omega)
        rw [d1, if_neg (fun z => by have := (nI_eq (by omega) (by omega)).mp z; omega), if_neg (nI_n1 (by omega))]
        refine ⟨_, rfl, ?_, by rw [← d1]; exact fr⟩
        show hapC (if NL.length = 20 then _ else _) _ _ _ _ _ _ _ _ _ _ _
        rw [if_neg h20]
        exact ⟨rfl, by rw [d2]; simp, d3, rfl, rfl, rfl, upd_s⟩
  · rw [decide_eq_false h8, ob_0, if_pos rfl, if_neg h8]
    exact ⟨_, rfl, ⟨rfl, rfl, hE, rfl, rfl⟩, fun _ _ => rfl⟩
end RC
