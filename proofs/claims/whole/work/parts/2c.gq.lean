/-- the texts as the reference holds them -/
def TXr (ma so on ot lo hi : Nat → Int32) (Hn : Nat) (T : Nat → List Sy) : Prop :=
  ∀ t, t < 6 → ma t = nI (T t).length ∧ (T t).length ≤ 12 ∧ ∀ k s, (T t)[k]? = some s → sOk Hn s ∧ sayR so on ot lo hi (12 * t + k) s
theorem gather_R {Hn : Nat} (hH : Hn ≤ 20) {ma so on ot lo hi : Nat → Int32} {T : Nat → List Sy} (hT : TXr ma so on ot lo hi Hn T) (mb : Int32) (be ah mo le : Nat → Int32) (u : Int32) :
    ∃ q, f_X12_gather (nI Hn) mb ma so on ot lo hi be ah mo le u = some q ∧ encB q.1 q.2.1 q.2.2.1 q.2.2.2 (baseB Hn ++ tellK bds T (hearI u) (keepI le) 6) := by
  have hTl : ∀ t, t < 6 → (T t).length ≤ 12 := fun t ht => (hT t ht).2.1
  have hbl := baseB_len Hn
  obtain ⟨q0, hq0, he0⟩ := lp_rule (body := f_X12_gather_l7 (nI Hn) ma so on ot lo hi le u) (fun sg => ∃ i : Nat, i ≤ Hn ∧ sg.1 = nI i ∧ encB sg.2.1 sg.2.2.1 sg.2.2.2.1 sg.2.2.2.2 (baseB i)) (fun sg => Hn - sg.1.toNatClampNeg) (fun t => encB t.2.1 t.2.2.1 t.2.2.2.1 t.2.2.2.2 (baseB Hn))
    (by
      intro sg hinv
      obtain ⟨i, hi, ei, he⟩ := hinv
      unfold f_X12_gather_l7
      rw [ei]
      by_cases hlt : i < Hn
      · rw [if_neg (nI_ge hlt (by omega))]
        have hl := baseB_len i
        simp only [n1, nn2]
        obtain ⟨q1, e1, d1⟩ := addB he (by omega) (u := 1 + 2 * i) (v := 0) (g := 0) (z := 0) rfl (rfl : (0 : Int32) = nI 0) rfl
        obtain ⟨q2, e2, d2⟩ := addB d1 (by simp; omega) (u := 2 + 2 * i) (v := 1 + 2 * i) (g := 0) (z := 0) rfl rfl rfl
        obtain ⟨q3, e3, d3⟩ := addB d2 (by simp; omega) (u := 0) (v := 2 + 2 * i) (g := 9999) (z := -9999) (rfl : (0 : Int32) = nI 0) rfl rfl
        rw [e1]; simp only [bs]; rw [e2]; simp only [bs]; rw [e3]; simp only [bs]
        refine Or.inl ⟨_, rfl, ⟨i + 1, hlt, by rw [← nI_1], by simpa [baseB, List.append_assoc] using d3⟩, ?_⟩
        show Hn - (nI i + 1).toNatClampNeg < Hn - (nI i).toNatClampNeg
        rw [nI_1, nI_clamp (by omega), nI_clamp (by omega)]; omega
      · obtain rfl : i = Hn := by omega
        rw [if_pos (nI_le (Nat.le_refl i) (by omega))]
        exact Or.inr ⟨_, rfl, he⟩)
    gFU (0, 0, be, ah, mo) ⟨0, Nat.zero_le _, nI_0.symm, ⟨rfl, fun i e h => by simp [baseB] at h⟩⟩ (by show Hn - (0 : Int32).toNatClampNeg < 100000; omega)
  have inner : ∀ t : Nat, t < 6 → ∀ (m : Int32) (a b c : Nat → Int32), encB m a b c (baseB Hn ++ tellK bds T (hearI u) (keepI le) t) → ∃ q, lp (f_X12_gather_l70 (nI Hn) ma so on ot lo hi le u (nI t)) gFU (0, m, a, b, c) = some q ∧ encB q.2.1 q.2.2.1 q.2.2.2.1 q.2.2.2.2 (baseB Hn ++ (tellK bds T (hearI u) (keepI le) t ++ (if hearI u t then saysK bds (T t) (keepI le t) (T t).length else []))) := by
    intro t ht m a b c he
    obtain ⟨h2, h3, h4⟩ := hT t ht
    have htl := tellK_len bds_len T hTl (hearI u) (keepI le) t (by omega)
    have clt : (nI t).toNatClampNeg = t := nI_clamp (by omega)
    have hin7 : vp_in (nI t) 7 := vp_in_nI (by omega) (by omega)
    refine lp_rule (body := f_X12_gather_l70 (nI Hn) ma so on ot lo hi le u (nI t)) (fun sg => ∃ k : Nat, k ≤ (T t).length ∧ sg.1 = nI k ∧ encB sg.2.1 sg.2.2.1 sg.2.2.2.1 sg.2.2.2.2 (baseB Hn ++ (tellK bds T (hearI u) (keepI le) t ++ (if hearI u t then saysK bds (T t) (keepI le t) k else [])))) (fun sg => (T t).length - sg.1.toNatClampNeg) (fun q => encB q.2.1 q.2.2.1 q.2.2.2.1 q.2.2.2.2 (baseB Hn ++ (tellK bds T (hearI u) (keepI le) t ++ (if hearI u t then saysK bds (T t) (keepI le t) (T t).length else [])))) ?_ gFU (0, m, a, b, c) ⟨0, Nat.zero_le _, nI_0.symm, by simpa [saysK] using he⟩ (by show (T t).length - (0 : Int32).toNatClampNeg < 100000; omega)
    intro sg hinv
    obtain ⟨k, hk, ek, he⟩ := hinv
    unfold f_X12_gather_l70
    rw [ek]
    simp only [clt, gIn_of hin7, h2]
    by_cases hlt : k < (T t).length
    · rw [if_neg (nI_ge hlt (by omega))]
      have clk : (nI k).toNatClampNeg = k := nI_clamp (by omega)
      have esl : (12 : Int32) * nI t + nI k = nI (12 * t + k) := by
        rw [show (12 : Int32) = nI 12 from rfl, pk_mul, nI_add]
      have hsl := saysK_len bds_len (T t) (keepI le t) k
      have mes : (T t).length - (nI k + 1).toNatClampNeg < (T t).length - (nI k).toNatClampNeg := by rw [nI_1, nI_clamp (by omega), clk]; omega
      have hg : (T t)[k]? = some ((T t)[k]) := List.getElem?_eq_getElem hlt
      by_cases hh : ((u >>> (nI t &&& 31)) &&& 1) = 1
      · rw [if_pos hh]
        have h9 : hearI u t = true := decide_eq_true hh
        simp only [esl, gIn_of (vp_in_nI (show 12 * t + k < 84 by omega) (by omega)), nI_clamp (show 12 * t + k < 2 ^ 31 by omega)]
        rw [h9] at he
        by_cases hlo : le (12 * t + k) = 0
        · rw [if_pos hlo]
          obtain ⟨s1, s2⟩ := h4 k _ hg
          obtain ⟨q, eq, dq⟩ := say_R he (by simp; omega) (show 12 * t + k < 84 by omega) s1 s2
          rw [eq]; simp only [bs]
          refine Or.inl ⟨_, rfl, ⟨k + 1, hlt, by rw [← nI_1], ?_⟩, mes⟩
          have hkp : keepI le t k = true := decide_eq_true hlo
          show encB q.1 q.2.1 q.2.2.1 q.2.2.2 _
          simpa [saysK, hg, hkp, h9, List.append_assoc] using dq
        · rw [if_neg hlo]
          refine Or.inl ⟨_, rfl, ⟨k + 1, hlt, by rw [← nI_1], ?_⟩, mes⟩
          have hkp : keepI le t k = false := decide_eq_false hlo
          simpa [saysK, hg, hkp, h9] using he
      · rw [if_neg hh]
        have h9 : hearI u t = false := decide_eq_false hh
        refine Or.inl ⟨_, rfl, ⟨k + 1, hlt, by rw [← nI_1], ?_⟩, mes⟩
        simpa [h9] using he
    · obtain rfl : k = (T t).length := by omega
      rw [if_pos (nI_le (Nat.le_refl _) (by omega))]
      exact Or.inr ⟨_, rfl, he⟩
  obtain ⟨t, ht, hp⟩ := lp_rule (body := f_X12_gather_l62 (nI Hn) ma so on ot lo hi le u) (fun sg => ∃ i : Nat, i ≤ 6 ∧ sg.1 = nI i ∧ encB sg.2.1 sg.2.2.1 sg.2.2.2.1 sg.2.2.2.2 (baseB Hn ++ tellK bds T (hearI u) (keepI le) i)) (fun sg => 6 - sg.1.toNatClampNeg) (fun q => encB q.2.1 q.2.2.1 q.2.2.2.1 q.2.2.2.2 (baseB Hn ++ tellK bds T (hearI u) (keepI le) 6))
    (by
      intro sg hinv
      obtain ⟨i, hi, ei, he⟩ := hinv
      unfold f_X12_gather_l62
      rw [ei]
      by_cases hlt : i < 6
      · have h6 : ¬ (6 : Int32) ≤ nI i := nI_ge (a := i) (b := 6) hlt (by omega)
        rw [if_neg h6]
        have mes : 6 - (nI i + 1).toNatClampNeg < 6 - (nI i).toNatClampNeg := by rw [nI_1, nI_clamp (by omega), nI_clamp (by omega)]; omega
        obtain ⟨q, eq, dq⟩ := inner i hlt _ _ _ _ he
        rw [eq]; simp only [bs]
        refine Or.inl ⟨_, rfl, ⟨i + 1, hlt, by rw [← nI_1], ?_⟩, mes⟩
        show encB q.2.1 q.2.2.1 q.2.2.2.1 q.2.2.2.2 _
        simpa [tellK] using dq
      · obtain rfl : i = 6 := by omega
        rw [if_pos (show (6 : Int32) ≤ nI 6 by decide)]
        exact Or.inr ⟨_, rfl, he⟩)
    gFU (0, q0.2.1, q0.2.2.1, q0.2.2.2.1, q0.2.2.2.2) ⟨0, by omega, nI_0.symm, by simpa [tellK] using he0⟩ (by show 6 - (0 : Int32).toNatClampNeg < 100000; omega)
  unfold f_X12_gather
  rw [hq0]; simp only [bs]; rw [ht]
  exact ⟨_, rfl, hp⟩
