/-! what the class gathers -/
def baseK : Nat → List Lk
  | 0 => []
  | h + 1 => baseK h ++ [(0, 1 + 2 * h, 0), (1 + 2 * h, 2 + 2 * h, 0), (2 + 2 * h, 0, -9999)]
def saysK (L : Sy → List Lk) (T : List Sy) (keep : Nat → Bool) : Nat → List Lk
  | 0 => []
  | k + 1 => saysK L T keep k ++ (match T[k]? with
    | some s => if keep k then L s else []
    | none => [])
def tellK (L : Sy → List Lk) (T : Nat → List Sy) (hear : Nat → Bool) (keep : Nat → Nat → Bool) : Nat → List Lk
  | 0 => []
  | t + 1 => tellK L T hear keep t ++ (if hear t then saysK L (T t) (keep t) (T t).length else [])
theorem baseK_len : ∀ h, (baseK h).length = 3 * h
  | 0 => rfl
  | h + 1 => by simp [baseK, baseK_len h]; omega
theorem saysK_len {L : Sy → List Lk} (hL : ∀ s, (L s).length ≤ 4) (T : List Sy) (keep : Nat → Bool) : ∀ k, (saysK L T keep k).length ≤ 4 * k
  | 0 => Nat.le_refl 0
  | k + 1 => by
    have h1 := saysK_len hL T keep k
    unfold saysK
    rw [List.length_append]
    have h2 : (match T[k]? with
      | some s => if keep k then L s else []
      | none => []).length ≤ 4 := by
      split
      · split
        · exact hL _
        · exact Nat.zero_le _
      · exact Nat.zero_le _
    omega
theorem tellK_len {L : Sy → List Lk} (hL : ∀ s, (L s).length ≤ 4) (T : Nat → List Sy) (hT : ∀ t, t < 6 → (T t).length ≤ 12) (hear : Nat → Bool) (keep : Nat → Nat → Bool) : ∀ t, t ≤ 6 → (tellK L T hear keep t).length ≤ 48 * t
  | 0, _ => Nat.le_refl 0
  | t + 1, ht => by
    have h1 := tellK_len hL T hT hear keep t (by omega)
    have h2 := saysK_len hL (T t) (keep t) (T t).length
    have h3 := hT t (by omega)
    unfold tellK
    rw [List.length_append]
    split
    · omega
    · simp; omega
theorem lks_len (s : Sy) : (lks s).length ≤ 4 := by
  unfold lks
  split
  · simp
  · split
    · simp
    · split
      · simp
      · split
        · simp
        · split
          · simp
          · split
            · split <;> simp
            · simp
theorem open_C {Hn : Nat} (hH : Hn ≤ 20) (mn ms : Int32) (ts hs gs : Nat → Int32) : ∃ q, f_X4_open mn ms ts hs gs (nI Hn) = some q ∧ q.1 = nI (1 + 2 * Hn) ∧ encL q.2.1 q.2.2.1 q.2.2.2.1 q.2.2.2.2 (baseK Hn) := by
  have eN : (1 : Int32) + 2 * (if (20 : Int32) < nI Hn then 20 else nI Hn) = nI (1 + 2 * Hn) := by
    have h20 : ¬ (20 : Int32) < nI Hn := nI_nlt (a := 20) (b := Hn) hH (by omega)
    rw [if_neg h20, show (2 : Int32) = nI 2 from rfl, show (1 : Int32) = nI 1 from rfl, pk_mul, nI_add]
  obtain ⟨t, ht, hp⟩ := lp_rule (body := f_X4_open_l24 (1 + (2 * (if 20 < nI Hn then 20 else nI Hn))) (nI Hn)) (fun sg => ∃ i : Nat, i ≤ Hn ∧ sg.1 = nI i ∧ encL sg.2.1 sg.2.2.1 sg.2.2.2.1 sg.2.2.2.2 (baseK i)) (fun sg => Hn - sg.1.toNatClampNeg) (fun t => encL t.2.1 t.2.2.1 t.2.2.2.1 t.2.2.2.2 (baseK Hn))
    (by
      intro sg hinv
      obtain ⟨i, hi, ei, he⟩ := hinv
      unfold f_X4_open_l24
      rw [ei]
      by_cases hlt : i < Hn
      · rw [if_neg (nI_ge hlt (by omega))]
        have hl := baseK_len i
        simp only [fo, la, bs]
        obtain ⟨q1, e1, d1⟩ := add14 he (by omega) (u := 0) (v := 1 + 2 * i) (g := 0) (z := 0) (rfl : (0 : Int32) = nI 0) rfl rfl
        obtain ⟨q2, e2, d2⟩ := add14 d1 (by simp; omega) (u := 1 + 2 * i) (v := 2 + 2 * i) (g := 0) (z := 0) rfl rfl rfl
        obtain ⟨q3, e3, d3⟩ := add14 d2 (by simp; omega) (u := 2 + 2 * i) (v := 0) (g := -9999) (z := -9999) rfl (rfl : (0 : Int32) = nI 0) rfl
        rw [e1]; simp only [bs]; rw [e2]; simp only [bs]; rw [e3]; simp only [bs]
        refine Or.inl ⟨_, rfl, ⟨i + 1, hlt, by rw [← nI_1], by simpa [baseK, List.append_assoc] using d3⟩, ?_⟩
        show Hn - (nI i + 1).toNatClampNeg < Hn - (nI i).toNatClampNeg
        rw [nI_1, nI_clamp (by omega), nI_clamp (by omega)]; omega
      · obtain rfl : i = Hn := by omega
        rw [if_pos (nI_le (Nat.le_refl i) (by omega))]
        exact Or.inr ⟨_, rfl, he⟩)
    gFU (0, 0, ts, hs, gs) ⟨0, Nat.zero_le _, nI_0.symm, ⟨rfl, fun i e h => by simp [baseK] at h⟩⟩ (by show Hn - (0 : Int32).toNatClampNeg < 100000; omega)
  unfold f_X4_open
  rw [ht]
  exact ⟨_, rfl, eN, hp⟩
/-- the texts as the class holds them -/
def TXc (tt : Nat → Nat) (sz : Nat → Int32) (w : Nat → Nat) (ow ot fs sn : Nat → Int32) (Hn : Nat) (T : Nat → List Sy) : Prop :=
  ∀ t, t < 6 → tt t < 7 ∧ sz (tt t) = nI (T t).length ∧ (T t).length ≤ 12 ∧ ∀ k s, (T t)[k]? = some s → sOk Hn s ∧ sayC w ow ot fs sn (12 * tt t + k) s
def hearI (u : Int32) (t : Nat) : Bool := decide (((u >>> (nI t &&& 31)) &&& 1) = 1)
def keepI (lo : Nat → Int32) (t k : Nat) : Bool := decide (lo (12 * t + k) = 0)
theorem gather_C {Hn : Nat} (hH : Hn ≤ 20) {tt : Nat → Nat} {sz : Nat → Int32} {w : Nat → Nat} {ow ot fs sn : Nat → Int32} {T : Nat → List Sy} (hT : TXc tt sz w ow ot fs sn Hn T) (mn ms : Int32) (ts hs gs lo : Nat → Int32) (u : Int32) :
    ∃ q, f_X1_gather (nI Hn) tt mn ms ts hs gs lo sz w ow ot fs sn u = some q ∧ q.1 = nI (1 + 2 * Hn) ∧ encL q.2.1 q.2.2.1 q.2.2.2.1 q.2.2.2.2 (baseK Hn ++ tellK lks T (hearI u) (keepI lo) 6) := by
  obtain ⟨q0, hq0, hn0, he0⟩ := open_C hH mn ms ts hs gs
  have hTl : ∀ t, t < 6 → (T t).length ≤ 12 := fun t ht => (hT t ht).2.2.1
  have hbl := baseK_len Hn
  -- the inner loop
  have inner : ∀ t : Nat, t < 6 → ∀ (m : Int32) (a b c : Nat → Int32), encL m a b c (baseK Hn ++ tellK lks T (hearI u) (keepI lo) t) → ∃ q, lp (f_X1_gather_l33 (nI Hn) tt q0.1 lo sz w ow ot fs sn u (nI t)) gFU (0, m, a, b, c) = some q ∧ encL q.2.1 q.2.2.1 q.2.2.2.1 q.2.2.2.2 (baseK Hn ++ (tellK lks T (hearI u) (keepI lo) t ++ saysK lks (T t) (keepI lo t) (T t).length)) := by
    intro t ht m a b c he
    obtain ⟨h1, h2, h3, h4⟩ := hT t ht
    have htl := tellK_len lks_len T hTl (hearI u) (keepI lo) t (by omega)
    have clt : (nI t).toNatClampNeg = t := nI_clamp (by omega)
    have hin6 : vp_in (nI t) 6 := vp_in_nI ht (by omega)
    refine lp_rule (body := f_X1_gather_l33 (nI Hn) tt q0.1 lo sz w ow ot fs sn u (nI t)) (fun sg => ∃ k : Nat, k ≤ (T t).length ∧ sg.1 = nI k ∧ encL sg.2.1 sg.2.2.1 sg.2.2.2.1 sg.2.2.2.2 (baseK Hn ++ (tellK lks T (hearI u) (keepI lo) t ++ saysK lks (T t) (keepI lo t) k))) (fun sg => (T t).length - sg.1.toNatClampNeg) (fun q => encL q.2.1 q.2.2.1 q.2.2.2.1 q.2.2.2.2 (baseK Hn ++ (tellK lks T (hearI u) (keepI lo) t ++ saysK lks (T t) (keepI lo t) (T t).length))) ?_ gFU (0, m, a, b, c) ⟨0, Nat.zero_le _, nI_0.symm, by simpa [saysK] using he⟩ (by show (T t).length - (0 : Int32).toNatClampNeg < 100000; omega)
    intro sg hinv
    obtain ⟨k, hk, ek, he⟩ := hinv
    unfold f_X1_gather_l33
    rw [ek]
    simp only [clt, gIn_of hin6, gN_of h1, h2]
    by_cases hlt : k < (T t).length
    · rw [if_neg (nI_ge hlt (by omega))]
      have clk : (nI k).toNatClampNeg = k := nI_clamp (by omega)
      have esl : f_X1_slot (nI t) (nI k) = some (nI (12 * t + k)) := by
        unfold f_X1_slot
        rw [show (12 : Int32) = nI 12 from rfl, pk_mul, nI_add, Nat.mul_comm]
      have hsl := saysK_len lks_len (T t) (keepI lo t) k
      simp only [esl, bs, gIn_of (vp_in_nI (show 12 * t + k < 72 by omega) (by omega)), nI_clamp (show 12 * t + k < 2 ^ 31 by omega)]
      have mes : (T t).length - (nI k + 1).toNatClampNeg < (T t).length - (nI k).toNatClampNeg := by rw [nI_1, nI_clamp (by omega), clk]; omega
      have hg : (T t)[k]? = some ((T t)[k]) := List.getElem?_eq_getElem hlt
      by_cases hlo : lo (12 * t + k) = 0
      · rw [if_pos hlo]
        obtain ⟨s1, s2⟩ := h4 k _ hg
        have hp84 : 12 * tt t + k < 84 := by omega
        simp only [gIn_of (vp_in_nI (show k < 12 by omega) (by omega)), clk, gN_of hp84]
        obtain ⟨q, eq, dq⟩ := put14 he (by simp; omega) hp84 s1 s2
        rw [eq]; simp only [bs]
        refine Or.inl ⟨_, rfl, ⟨k + 1, hlt, by rw [← nI_1], ?_⟩, by rw [← clk]; rw [clk]; exact (by rw [clk] at mes; exact mes)⟩
        have hkp : keepI lo t k = true := decide_eq_true hlo
        show encL q.1 q.2.1 q.2.2.1 q.2.2.2 _
        simpa [saysK, hg, hkp, List.append_assoc] using dq
      · rw [if_neg hlo]
        refine Or.inl ⟨_, rfl, ⟨k + 1, hlt, by rw [← nI_1], ?_⟩, mes⟩
        have hkp : keepI lo t k = false := decide_eq_false hlo
        simpa [saysK, hg, hkp] using he
    · obtain rfl : k = (T t).length := by omega
      rw [if_pos (nI_le (Nat.le_refl _) (by omega))]
      exact Or.inr ⟨_, rfl, he⟩
  obtain ⟨t, ht, hp⟩ := lp_rule (body := f_X1_gather_l16 (nI Hn) tt q0.1 lo sz w ow ot fs sn u) (fun sg => ∃ i : Nat, i ≤ 6 ∧ sg.1 = nI i ∧ encL sg.2.1 sg.2.2.1 sg.2.2.2.1 sg.2.2.2.2 (baseK Hn ++ tellK lks T (hearI u) (keepI lo) i)) (fun sg => 6 - sg.1.toNatClampNeg) (fun q => encL q.2.1 q.2.2.1 q.2.2.2.1 q.2.2.2.2 (baseK Hn ++ tellK lks T (hearI u) (keepI lo) 6))
    (by
      intro sg hinv
      obtain ⟨i, hi, ei, he⟩ := hinv
      unfold f_X1_gather_l16
      rw [ei]
      by_cases hlt : i < 6
      · have h6 : ¬ (6 : Int32) ≤ nI i := nI_ge (a := i) (b := 6) hlt (by omega)
        rw [if_neg h6]
        have mes : 6 - (nI i + 1).toNatClampNeg < 6 - (nI i).toNatClampNeg := by rw [nI_1, nI_clamp (by omega), nI_clamp (by omega)]; omega
        by_cases hh : ((u >>> (nI i &&& 31)) &&& 1) = 1
        · rw [if_pos hh]
          obtain ⟨q, eq, dq⟩ := inner i hlt _ _ _ _ he
          rw [eq]; simp only [bs]
          refine Or.inl ⟨_, rfl, ⟨i + 1, hlt, by rw [← nI_1], ?_⟩, mes⟩
          have h9 : hearI u i = true := decide_eq_true hh
          show encL q.2.1 q.2.2.1 q.2.2.2.1 q.2.2.2.2 _
          simpa [tellK, h9] using dq
        · rw [if_neg hh]
          refine Or.inl ⟨_, rfl, ⟨i + 1, hlt, by rw [← nI_1], ?_⟩, mes⟩
          have h9 : hearI u i = false := decide_eq_false hh
          simpa [tellK, h9] using he
      · obtain rfl : i = 6 := by omega
        rw [if_pos (show (6 : Int32) ≤ nI 6 by decide)]
        exact Or.inr ⟨_, rfl, he⟩)
    gFU (0, q0.2.1, q0.2.2.1, q0.2.2.2.1, q0.2.2.2.2) ⟨0, by omega, nI_0.symm, by simpa [tellK] using he0⟩ (by show 6 - (0 : Int32).toNatClampNeg < 100000; omega)
  unfold f_X1_gather
  rw [hq0]; simp only [bs]; rw [ht]
  exact ⟨_, rfl, hn0, hp⟩
