/-! name and octet -/
theorem l_div {v : Int64} {w : Nat} (hv : v.toInt = (w : Int)) (hw : w < 2 ^ 40) : (v / 27).toInt = ((w / 27 : Nat) : Int) := by
  have h27 : (27 : Int64).toInt = 27 := by decide
  rw [Int64.toInt_div, hv, h27, Int.tdiv_eq_ediv_of_nonneg (by omega)]
  rw [Int.bmod_eq_of_le (by omega) (by omega)]
  omega
theorem l_rem {v : Int64} {w : Nat} (hv : v.toInt = (w : Int)) (hw : w < 2 ^ 40) : (v - v / 27 * 27).toInt32 + 96 = nI (w % 27 + 96) := by
  have hd := l_div hv hw
  have h27 : (27 : Int64).toInt = 27 := by decide
  have e1 : (v / 27 * 27).toInt = ((w / 27 : Nat) : Int) * 27 := by
    rw [l_mul (by rw [hd, h27]; omega) (by rw [hd, h27]; omega), hd, h27]
  have e2 : (v - v / 27 * 27).toInt = ((w % 27 : Nat) : Int) := by
    rw [l_sub (by rw [hv, e1]; omega) (by rw [hv, e1]; omega), hv, e1]; omega
  have e3 : (v - v / 27 * 27).toInt32 = nI (w % 27) := by
    rw [i_eq, Int64.toInt_toInt32, e2, nI_toInt (by omega), Int.bmod_eq_of_le (by omega) (by omega)]
  rw [e3, show (96 : Int32) = nI 96 from rfl, nI_add]
theorem nm_take {l : List Nat} (hl : l.all ltr = true) {k : Nat} (hk : k < l.length) : nmN (l.take (k + 1)) = 27 * nmN (l.take k) + (l[k] - 96) ∧ 97 ≤ l[k] ∧ l[k] ≤ 122 := by
  have hc := ltr_iff.mp (List.all_eq_true.mp hl _ (List.getElem_mem hk))
  refine ⟨?_, hc.1, hc.2⟩
  rw [List.take_succ_eq_append_getElem hk, nmN_app]
theorem nm_tb {l : List Nat} (hl : l.all ltr = true) : ∀ k, k ≤ l.length → nmN (l.take k) + 1 ≤ 27 ^ k
  | 0, _ => by simp [nmN]
  | k + 1, hk => by
    have ih := nm_tb hl k (by omega)
    obtain ⟨e, h1, h2⟩ := nm_take hl (show k < l.length by omega)
    rw [e, Nat.pow_succ]; omega
theorem nm_40 {l : List Nat} (hl : l.all ltr = true) (h8 : l.length ≤ 8) {k : Nat} (hk : k ≤ l.length) : nmN (l.take k) < 2 ^ 40 := by
  have h1 := nm_tb hl k hk
  have h2 : 27 ^ k ≤ 27 ^ 8 := Nat.pow_le_pow_right (by omega) (by omega)
  omega
theorem name_R {hp : Nat → Int64} {NL : List (List Nat)} (hN : nmsOk NL) (hE : encH hp NL) (th ou : Int32) (out : Nat → Int32) (p : Int32) :
    ∃ q, f_X12_name th (nI NL.length) ou hp out p = some q ∧ q.2.1 = 0 ∧ ((∀ h, h < NL.length → ¬ p = nI h) → q.1 = -1 ∧ q.2.2.1 = ou ∧ q.2.2.2 = out) ∧
      (∀ h l, NL[h]? = some l → p = nI h → q.1 = nI l.length ∧ q.2.2.1 = nI l.length ∧ ∀ k c, l[k]? = some c → q.2.2.2 k = nI c) := by
  have hN1 := hN.1
  unfold f_X12_name
  rcases pk_ix p (n := NL.length) (by omega) with z | z | ⟨h, hh, rfl⟩
  · rw [if_pos z]
    exact ⟨_, rfl, rfl, fun _ => ⟨rfl, rfl, rfl⟩, fun h l hl e => absurd z (by rw [e]; exact nI_pos (by have := (List.getElem?_eq_some_iff.mp hl).1; omega))⟩
  · have hno : ∀ h l, NL[h]? = some l → ¬ p = nI h := fun h l hl e => absurd z (by rw [e]; exact nI_ge (List.getElem?_eq_some_iff.mp hl).1 (by omega))
    by_cases z0 : p < 0
    · rw [if_pos z0]
      exact ⟨_, rfl, rfl, fun _ => ⟨rfl, rfl, rfl⟩, fun h l hl e => absurd e (hno h l hl)⟩
    · have z1 : ¬ p < nI NL.length := fun y => by rw [i_lt] at y; rw [i_le] at z; omega
      rw [if_neg z0, if_neg z1]
      exact ⟨_, rfl, rfl, fun _ => ⟨rfl, rfl, rfl⟩, fun h l hl e => absurd e (hno h l hl)⟩
  · rw [if_neg (nI_pos (by omega)), if_pos (nI_lt hh (by omega)), gIn_of (vp_in_nI (by omega) (by omega)), nI_clamp (by omega)]
    obtain ⟨l, hl⟩ : ∃ l, NL[h]? = some l := ⟨_, List.getElem?_eq_getElem hh⟩
    obtain ⟨o1, o2, o3, o4⟩ := nms_get hN hl
    have hE1 := hE h l hl
    obtain ⟨t, ht, hp1⟩ := lp_rule (body := f_X12_name_l31 0 (nI NL.length) hp out (nI h)) (fun sg => ∃ i : Nat, i ≤ l.length ∧ sg.2 = nI i ∧ sg.1.toInt = (nmN (l.take (l.length - i)) : Int)) (fun sg => l.length - sg.2.toNatClampNeg) (fun t => t.2 = nI l.length)
      (by
        intro sg hinv
        obtain ⟨i, hi, e1, e2⟩ := hinv
        unfold f_X12_name_l31
        rw [e1]
        by_cases hlt : i < l.length
        · obtain ⟨e3, c1, c2⟩ := nm_take o3 (show l.length - i - 1 < l.length by omega)
          rw [show l.length - i - 1 + 1 = l.length - i by omega] at e3
          have hpos : ¬ lg_cmp sg.1 0 ≤ 0 := by
            rw [lg_cmp_le, Int64.le_iff_toInt_le, e2]
            have e0 : (0 : Int64).toInt = 0 := by decide
            omega
          rw [if_neg hpos]
          refine Or.inl ⟨_, rfl, ⟨i + 1, hlt, by rw [← nI_1], ?_⟩, by rw [nI_1, nI_clamp (by omega), nI_clamp (by omega)]; omega⟩
          show (sg.1 / 27).toInt = _
          rw [l_div e2 (nm_40 o3 o2 (by omega)), show l.length - (i + 1) = l.length - i - 1 by omega, e3]
          omega
        · obtain rfl : i = l.length := by omega
          have hz : lg_cmp sg.1 0 ≤ 0 := by
            rw [lg_cmp_le, Int64.le_iff_toInt_le, e2, Nat.sub_self]
            exact (show ((0 : Nat) : Int) ≤ (0 : Int64).toInt by decide)
          rw [if_pos hz]
          exact Or.inr ⟨_, rfl, rfl⟩)
      gFU (hp h, 0) ⟨0, Nat.zero_le _, nI_0.symm, by rw [Nat.sub_zero, List.take_length]; exact hE1⟩ (by show l.length - (0 : Int32).toNatClampNeg < 100000; omega)
    rw [ht]; simp only [bs]
    rw [hp1, gIn_of (vp_in_nI (by omega) (by omega))]
    obtain ⟨t2, ht2, hp2⟩ := lp_rule (body := f_X12_name_l71 0 (nI NL.length) (nI l.length) hp) (fun sg => ∃ i : Nat, i ≤ l.length ∧ sg.2.1 = nI i - 1 ∧ sg.1.toInt = (nmN (l.take i) : Int) ∧ ∀ k c, i ≤ k → l[k]? = some c → sg.2.2 k = nI c) (fun sg => (sg.2.1 + 1).toNatClampNeg) (fun t => ∀ k c, l[k]? = some c → t.2.2 k = nI c)
      (by
        intro sg hinv
        obtain ⟨i, hi, e1, e2, h3⟩ := hinv
        unfold f_X12_name_l71
        rw [e1]
        cases i with
        | zero =>
          rw [if_pos (show nI 0 - 1 < 0 by decide)]
          exact Or.inr ⟨_, rfl, fun k c hk => h3 k c (Nat.zero_le k) hk⟩
        | succ i =>
          rw [nI_pred, if_neg (nI_pos (by omega)), gIn_of (vp_in_nI (by omega) (by omega)), nI_clamp (by omega), l_rem e2 (nm_40 o3 o2 hi)]
          obtain ⟨e3, c1, c2⟩ := nm_take o3 (show i < l.length by omega)
          refine Or.inl ⟨_, rfl, ⟨i, by omega, by rw [Int32.sub_eq_add_neg], ?_, fun k c hk hc => ?_⟩, ?_⟩
          · show (sg.1 / 27).toInt = _
            rw [l_div e2 (nm_40 o3 o2 hi), e3]; omega
          · show upd sg.2.2 i (nI (nmN (l.take (i + 1)) % 27 + 96)) k = nI c
            by_cases hki : k = i
            · subst hki
              rw [upd_s]
              have hcc : c = l[k] := by rw [List.getElem?_eq_getElem (by omega)] at hc; exact (Option.some.inj hc).symm
              rw [hcc, e3]
              congr 1; omega
            · rw [upd_n hki]; exact h3 k c (by omega) hc
          · show (nI i + (-1) + 1).toNatClampNeg < (nI i + 1).toNatClampNeg
            rw [show nI i + (-1) + 1 = nI i by rw [Int32.add_assoc, show (-1 : Int32) + 1 = 0 by decide, Int32.add_zero], nI_1, nI_clamp (by omega), nI_clamp (by omega)]; omega)
      gFU (hp h, nI l.length - 1, out) ⟨l.length, Nat.le_refl _, rfl, by rw [List.take_length]; exact hE1, fun k c hk hc => by have := (List.getElem?_eq_some_iff.mp hc).1; omega⟩ (by
        show (nI l.length - 1 + 1).toNatClampNeg < 100000
        rw [show nI l.length - 1 + 1 = nI l.length by rw [Int32.sub_eq_add_neg, Int32.add_assoc, show (-1 : Int32) + 1 = 0 by decide, Int32.add_zero], nI_clamp (by omega)]; omega)
    rw [ht2]; simp only [bs]
    refine ⟨_, rfl, rfl, fun z => absurd rfl (z h hh), fun h' l' hl' e => ?_⟩
    obtain rfl : h = h' := (nI_eq (by omega) (by have := (List.getElem?_eq_some_iff.mp hl').1; omega)).mp e
    rw [hl] at hl'; cases hl'
    exact ⟨rfl, rfl, hp2⟩
theorem name_C {le nl : Nat → Int32} {NL : List (List Nat)} (hN : nmsOk NL) (hE : encN le nl NL) (ou p : Int32) :
    ∃ q, f_X11_name ou (nI NL.length) nl p = some q ∧ ((∀ h, h < NL.length → ¬ p = nI h) → q.1 = -1 ∧ q.2 = ou) ∧ (∀ h l, NL[h]? = some l → p = nI h → q.1 = nI l.length ∧ q.2 = nI h) := by
  have hN1 := hN.1
  unfold f_X11_name
  rcases has_C hN1 p with ⟨h, hh, rfl, e⟩ | ⟨hno, e⟩
  · rw [e]; simp only [bs]
    rw [if_neg (show ¬ (1 : Int32) = 0 by decide), gIn_of (vp_in_nI (by omega) (by omega)), nI_clamp (by omega)]
    refine ⟨_, rfl, fun z => absurd rfl (z h hh), fun h' l' hl' e' => ?_⟩
    obtain rfl : h = h' := (nI_eq (by omega) (by have := (List.getElem?_eq_some_iff.mp hl').1; omega)).mp e'
    exact ⟨(hE h l' hl').1, rfl⟩
  · rw [e]; simp only [bs]
    rw [if_pos trivial]
    exact ⟨_, rfl, fun _ => ⟨rfl, rfl⟩, fun h l hl e' => absurd e' (hno h (List.getElem?_eq_some_iff.mp hl).1)⟩
/-- what is out: a name, or nothing -/
def ouI (NL : List (List Nat)) (ou : Option Nat) : Prop := ∀ h, ou = some h → h < NL.length
def ouL (NL : List (List Nat)) (ou : Option Nat) : List Nat := match ou with
  | some h => NL.getD h []
  | none => []
def ouR (NL : List (List Nat)) (ou : Option Nat) (outs : Int32) (out : Nat → Int32) : Prop := outs = nI (ouL NL ou).length ∧ ∀ k c, (ouL NL ou)[k]? = some c → out k = nI c
theorem ouL_get {NL : List (List Nat)} {h : Nat} (hh : h < NL.length) : NL[h]? = some (ouL NL (some h)) := by
  show NL[h]? = some (NL.getD h [])
  rw [List.getD_eq_getElem?_getD, List.getElem?_eq_getElem hh]; rfl
theorem ouL_len {NL : List (List Nat)} (hN : nmsOk NL) {ou : Option Nat} (ho : ouI NL ou) : (ouL NL ou).length ≤ 8 := by
  cases ou with
  | none => exact Nat.zero_le _
  | some h => exact (nms_get hN (ouL_get (ho h rfl))).2.1
theorem outLen_C {le nl : Nat → Int32} {NL : List (List Nat)} (hN : nmsOk NL) (hE : encN le nl NL) {ou : Option Nat} (ho : ouI NL ou) : f_X11_outLength (oH ou) (nI NL.length) nl = some (nI (ouL NL ou).length) := by
  have hN1 := hN.1
  unfold f_X11_outLength
  cases ou with
  | none =>
    have e : f_X3_has (nI NL.length) (oH none) = some 0 := by unfold f_X3_has; exact if_pos (by decide)
    rw [e]; rfl
  | some h =>
    have hh := ho h rfl
    have e : f_X3_has (nI NL.length) (oH (some h)) = some 1 := by
      unfold f_X3_has
      show (if nI h < 0 then _ else if nI NL.length ≤ nI h then _ else _) = _
      rw [if_neg (nI_pos (by omega)), if_neg (nI_ge hh (by omega))]
    rw [e]; simp only [bs]
    rw [if_neg (show ¬ (1 : Int32) = 0 by decide)]
    show gIn (nI h) 20 (some (nl (nI h).toNatClampNeg)) = _
    rw [gIn_of (vp_in_nI (by omega) (by omega)), nI_clamp (by omega), (hE h _ (ouL_get hh)).1]
theorem octet_C {le nl : Nat → Int32} {NL : List (List Nat)} (hN : nmsOk NL) (hE : encN le nl NL) {ou : Option Nat} (ho : ouI NL ou) (p : Int32) :
    ∃ q, f_X11_octet (oH ou) (nI NL.length) le nl p = some q ∧ (∀ k c, p = nI k → (ouL NL ou)[k]? = some c → q = .inl (nI c)) ∧ ((∀ k, k < (ouL NL ou).length → ¬ p = nI k) → q = .inr 2) := by
  have hN1 := hN.1
  have h8 := ouL_len hN ho
  unfold f_X11_octet f_X11_octet_b12
  rw [outLen_C hN hE ho]
  simp only [bs]
  rcases pk_ix p (n := (ouL NL ou).length) (by omega) with z | z | ⟨k, hk, rfl⟩
  · rw [if_pos z]
    exact ⟨_, rfl, fun k c e hc => absurd z (by rw [e]; exact nI_pos (by have := (List.getElem?_eq_some_iff.mp hc).1; omega)), fun _ => rfl⟩
  · have z1 : ¬ p < nI (ouL NL ou).length := fun y => by rw [i_lt] at y; rw [i_le] at z; omega
    have hno : ∀ k c, p = nI k → (ouL NL ou)[k]? = some c → False := fun k c e hc => absurd z (by rw [e]; exact nI_ge (List.getElem?_eq_some_iff.mp hc).1 (by omega))
    by_cases z0 : p < 0
    · rw [if_pos z0]
      exact ⟨_, rfl, fun k c e hc => (hno k c e hc).elim, fun _ => rfl⟩
    · rw [if_neg z0, if_neg z1]
      exact ⟨_, rfl, fun k c e hc => (hno k c e hc).elim, fun _ => rfl⟩
  · rw [if_neg (nI_pos (by omega)), if_pos (nI_lt hk (by omega))]
    cases ou with
    | none => exact absurd hk (Nat.not_lt_zero k)
    | some h =>
      have hh := ho h rfl
      unfold f_X3_letter
      show ∃ q, (gIn (nI h * 8 + nI k) 160 (some (le (nI h * 8 + nI k).toNatClampNeg))).bind _ = some q ∧ _
      rw [show (8 : Int32) = nI 8 from rfl, pk_mul, nI_add, gIn_of (vp_in_nI (by omega) (by omega)), nI_clamp (by omega), Nat.mul_comm h 8]
      simp only [bs]
      refine ⟨_, rfl, fun k' c e hc => ?_, fun z => absurd rfl (z k hk)⟩
      obtain rfl : k = k' := (nI_eq (by omega) (by have := (List.getElem?_eq_some_iff.mp hc).1; omega)).mp e
      rw [(hE h _ (ouL_get hh)).2 k c hc]
theorem octet_R {NL : List (List Nat)} (hN : nmsOk NL) {ou : Option Nat} (ho : ouI NL ou) {outs : Int32} {out : Nat → Int32} (hR : ouR NL ou outs out) (th p : Int32) :
    ∃ q, f_X12_octet th outs out p = some q ∧ (∀ k c, p = nI k → (ouL NL ou)[k]? = some c → q.1 = nI c ∧ q.2 = 0) ∧ ((∀ k, k < (ouL NL ou).length → ¬ p = nI k) → q.2 = 1) := by
  have h8 := ouL_len hN ho
  unfold f_X12_octet f_X12_octet_b12 f_X12_refuse
  rw [hR.1]
  simp only [bs]
  rcases pk_ix p (n := (ouL NL ou).length) (by omega) with z | z | ⟨k, hk, rfl⟩
  · rw [if_pos z]
    exact ⟨_, rfl, fun k c e hc => absurd z (by rw [e]; exact nI_pos (by have := (List.getElem?_eq_some_iff.mp hc).1; omega)), fun _ => rfl⟩
  · have z1 : ¬ p < nI (ouL NL ou).length := fun y => by rw [i_lt] at y; rw [i_le] at z; omega
    have hno : ∀ k c, p = nI k → (ouL NL ou)[k]? = some c → False := fun k c e hc => absurd z (by rw [e]; exact nI_ge (List.getElem?_eq_some_iff.mp hc).1 (by omega))
    by_cases z0 : p < 0
    · rw [if_pos z0]
      exact ⟨_, rfl, fun k c e hc => (hno k c e hc).elim, fun _ => rfl⟩
    · rw [if_neg z0, if_neg z1]
      exact ⟨_, rfl, fun k c e hc => (hno k c e hc).elim, fun _ => rfl⟩
  · rw [if_neg (nI_pos (by omega)), if_pos (nI_lt hk (by omega)), gIn_of (vp_in_nI (by omega) (by omega)), nI_clamp (by omega)]
    refine ⟨_, rfl, fun k' c e hc => ?_, fun z => absurd rfl (z k hk)⟩
    obtain rfl : k = k' := (nI_eq (by omega) (by have := (List.getElem?_eq_some_iff.mp hc).1; omega)).mp e
    exact ⟨hR.2 k c hc, rfl⟩
