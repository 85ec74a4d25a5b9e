/-! cutting a tape into tokens -/
def lim (n : Nat) : Nat := if 400 < n then 400 else n
theorem lim_le (n : Nat) : lim n ≤ 400 ∧ lim n ≤ n := by unfold lim; split <;> omega
theorem lim_nI {n : Nat} (hn : n ≤ 440) : (if (400 : Int32) < nI n then 400 else nI n) = nI (lim n) := by
  unfold lim
  by_cases h : 400 < n
  · have h' : (400 : Int32) < nI n := nI_lt (a := 400) (b := n) h (by omega)
    rw [if_pos h', if_pos h]; rfl
  · have h' : ¬ (400 : Int32) < nI n := nI_nlt (a := 400) (b := n) (by omega) (by omega)
    rw [if_neg h', if_neg h]
def eOf (o : Option (Nat × Nat)) : Nat := match o with
  | some x => x.1 + x.2
  | none => 0
def tP (L : List (Nat × Nat)) : Nat → Nat
  | 0 => 0
  | i + 1 => eOf L[i]?
def tkl (B : Nat → Nat) (n s l : Nat) : Prop := ∃ r, isRn B n s r ∧ l = if r = 0 then 1 else r
def tkE (B : Nat → Nat) (n : Nat) (L : List (Nat × Nat)) : Prop := ∀ i s l, L[i]? = some (s, l) → isSk B n (tP L i) s ∧ s < lim n ∧ s + l ≤ n ∧ tkl B n s l
def TKS (B : Nat → Nat) (n : Nat) (L : List (Nat × Nat)) : Prop := tkE B n L ∧ L.length ≤ lim n ∧ ∃ s, isSk B n (tP L L.length) s ∧ lim n ≤ s
def enT (B : Nat → Nat) (L : List (Nat × Nat)) (ty : Nat → Nat) (st ln : Nat → Int32) : Prop := ∀ i s l, L[i]? = some (s, l) → ty i = tyOf (bts B s l) ∧ st i = nI s ∧ ln i = nI l
def encT (B : Nat → Nat) (n : Nat) (L : List (Nat × Nat)) (ty : Nat → Nat) (st ln : Nat → Int32) : Prop := enT B L ty st ln ∧ ty L.length = 11 ∧ st L.length = nI (lim n)
theorem isSk_ex {B : Nat → Nat} {n : Nat} : ∀ d p, n - p = d → p ≤ n → ∃ s, isSk B n p s
  | 0, p, h, hp => ⟨p, Nat.le_refl _, hp, fun j h1 h2 => by omega, fun z => by omega⟩
  | d + 1, p, h, hp => by
    cases hb : blk (B p) with
    | false => exact ⟨p, Nat.le_refl _, hp, fun j h1 h2 => by omega, fun _ => hb⟩
    | true =>
      obtain ⟨s, h1, h2, h3, h4⟩ := isSk_ex (B := B) (n := n) d (p + 1) (by omega) (by omega)
      refine ⟨s, by omega, h2, fun j j1 j2 => ?_, h4⟩
      by_cases hj : j = p
      · subst hj; exact hb
      · exact h3 j (by omega) j2
theorem tP_app {L : List (Nat × Nat)} {x : Nat × Nat} {i : Nat} (h : i ≤ L.length) : tP (L ++ [x]) i = tP L i := by
  cases i with
  | zero => rfl
  | succ i => show eOf (L ++ [x])[i]? = eOf L[i]?; rw [List.getElem?_append_left (by omega)]
theorem tP_last {L : List (Nat × Nat)} {s l : Nat} : tP (L ++ [(s, l)]) (L.length + 1) = s + l := by
  show eOf (L ++ [(s, l)])[L.length]? = s + l
  rw [List.getElem?_append_right (Nat.le_refl _), Nat.sub_self]; rfl
theorem app_get {α : Type} {L : List α} {x e : α} {i : Nat} (h : (L ++ [x])[i]? = some e) : (i < L.length ∧ L[i]? = some e) ∨ (i = L.length ∧ e = x) := by
  by_cases hi : i < L.length
  · rw [List.getElem?_append_left hi] at h; exact Or.inl ⟨hi, h⟩
  · have h1 := (List.getElem?_eq_some_iff.mp h).1
    simp at h1
    obtain rfl : i = L.length := by omega
    rw [List.getElem?_append_right (Nat.le_refl _), Nat.sub_self] at h
    exact Or.inr ⟨rfl, (Option.some.inj h).symm⟩
theorem vu_s {f : Nat → Nat} {k x : Nat} : va_up f k x k = x := if_pos rfl
theorem vu_n {f : Nat → Nat} {k j x : Nat} (h : j ≠ k) : va_up f k x j = f j := if_neg h
theorem put_C {ty : Nat → Nat} {st ln : Nat → Int32} {m w : Nat} {a b : Int32} (hm : m ≤ 400) (hw : w < 13) : f_X10_put (nI m) ty st ln w a b = some (nI (m + 1), va_up ty m w, upd st m a, upd ln m b) := by
  unfold f_X10_put
  have h4 : ¬ (400 : Int32) < nI m := nI_nlt (a := 400) (b := m) hm (by omega)
  rw [if_neg h4, gN_of hw, gIn_of (vp_in_nI (by omega) (by omega)), gIn_of (vp_in_nI (by omega) (by omega)), gIn_of (vp_in_nI (by omega) (by omega)), nI_1, nI_clamp (by omega)]
theorem cut_C {a : Nat → Int32} {B : Nat → Nat} {n : Nat} (hn : n ≤ 440) (hB : BY a n B) (mt : Int32) (ty : Nat → Nat) (st ln : Nat → Int32) :
    ∃ q L, f_X10_cut (nI n) a mt ty st ln = some q ∧ TKS B n L ∧ encT B n L q.2.1 q.2.2.1 q.2.2.2 := by
  obtain ⟨l1, l2⟩ := lim_le n
  obtain ⟨t, ht, L, p, h1, h2, h3, h4, h5, h6, h7, h8, h9⟩ := lp_rule (body := f_X10_cut_l18 (nI n) a (nI (lim n))) (fun sg => ∃ (L : List (Nat × Nat)) (p : Nat), sg.1 = nI p ∧ p ≤ n ∧ tP L L.length ≤ p ∧ (∀ j, tP L L.length ≤ j → j < p → blk (B j) = true) ∧ sg.2.1 = nI L.length ∧ L.length ≤ p ∧ L.length ≤ lim n ∧ tkE B n L ∧ enT B L sg.2.2.1 sg.2.2.2.1 sg.2.2.2.2) (fun sg => n - sg.1.toNatClampNeg) (fun t => ∃ (L : List (Nat × Nat)) (p : Nat), lim n ≤ p ∧ p ≤ n ∧ tP L L.length ≤ p ∧ (∀ j, tP L L.length ≤ j → j < p → blk (B j) = true) ∧ t.2.1 = nI L.length ∧ L.length ≤ lim n ∧ tkE B n L ∧ enT B L t.2.2.1 t.2.2.2.1 t.2.2.2.2 ∧ True)
    (by
      intro sg hinv
      obtain ⟨L, p, e1, hp, hq, hbl, e2, hLp, hLl, hE, hT⟩ := hinv
      unfold f_X10_cut_l18
      rw [e1, e2]
      by_cases hlt : p < lim n
      · rw [if_neg (nI_ge hlt (by omega))]
        obtain ⟨b1, b2⟩ := hB p (by omega)
        rw [blank_C (by omega) b1 b2]
        simp only [bs]
        cases hb : blk (B p) with
        | true =>
          rw [ob_1, if_neg (show ¬ (1 : Int32) = 0 by decide)]
          refine Or.inl ⟨_, rfl, ⟨L, p + 1, by rw [← nI_1], by omega, by omega, fun j j1 j2 => ?_, rfl, by omega, hLl, hE, hT⟩, by rw [nI_1, nI_clamp (by omega), nI_clamp (by omega)]; omega⟩
          by_cases hj : j = p
          · subst hj; exact hb
          · exact hbl j j1 (by omega)
        | false =>
          rw [ob_0, if_pos rfl]
          obtain ⟨r, hr, er⟩ := length_C hn hB (show p < n by omega)
          rw [er]; simp only [bs]
          obtain ⟨l, hl, hl1, hln⟩ : ∃ l, l = (if r = 0 then 1 else r) ∧ 1 ≤ l ∧ p + l ≤ n := by
            refine ⟨_, rfl, ?_, ?_⟩
            · split <;> omega
            · have := hr.1
              split <;> omega
          have h59 : B p = 59 → l = 1 := by
            intro e
            have hr0 : r = 0 := by
              refine Nat.eq_zero_of_not_pos (fun z => ?_)
              have := hr.2.1 0 z
              rw [Nat.add_zero, e] at this
              exact absurd this (by decide)
            rw [hl, if_pos hr0]
          rw [← hl, typeAt_C hn hB hln hl1 h59]; simp only [bs]
          rw [put_C (by omega) (ty_lt _)]; simp only [bs]
          have epl : nI p + (nI l - 1) + 1 = nI (p + l) := by
            rw [show (1 : Int32) = nI 1 from rfl, pk_sub hl1, nI_add, nI_add]
            congr 1; omega
          rw [epl]
          have hsk : isSk B n (tP L L.length) p := ⟨hq, hp, hbl, fun _ => hb⟩
          refine Or.inl ⟨_, rfl, ⟨L ++ [(p, l)], p + l, rfl, hln, ?_, ?_, by simp, by simp; omega, by simp; omega, ?_, ?_⟩, by rw [nI_clamp (by omega), nI_clamp (by omega)]; omega⟩
          · rw [List.length_append]; show tP (L ++ [(p, l)]) (L.length + 1) ≤ _; rw [tP_last]; exact Nat.le_refl _
          · rw [List.length_append]; show ∀ j, tP (L ++ [(p, l)]) (L.length + 1) ≤ j → _; rw [tP_last]; intro j j1 j2; omega
          · intro i s l' h
            rcases app_get h with ⟨hi, hg⟩ | ⟨hi, he⟩
            · rw [tP_app (by omega)]; exact hE i s l' hg
            · cases he
              subst hi
              rw [tP_app (Nat.le_refl _)]
              exact ⟨hsk, hlt, hln, r, hr, hl⟩
          · intro i s l' h
            show va_up sg.2.2.1 L.length _ i = _ ∧ upd sg.2.2.2.1 L.length _ i = _ ∧ upd sg.2.2.2.2 L.length _ i = _
            rcases app_get h with ⟨hi, hg⟩ | ⟨hi, he⟩
            · rw [vu_n (by omega), upd_n (by omega), upd_n (by omega)]; exact hT i s l' hg
            · cases he
              subst hi
              rw [vu_s, upd_s, upd_s]; exact ⟨rfl, rfl, rfl⟩
      · rw [if_pos (nI_le (by omega) (by omega))]
        exact Or.inr ⟨_, rfl, L, p, by omega, hp, hq, hbl, rfl, hLl, hE, hT, trivial⟩)
    gFU (0, 0, ty, st, ln) ⟨[], 0, nI_0.symm, by omega, Nat.le_refl _, fun j _ hj => absurd hj (Nat.not_lt_zero j), nI_0.symm, Nat.le_refl _, Nat.zero_le _, fun i s l h => by simp at h, fun i s l h => by simp at h⟩ (by show n - (0 : Int32).toNatClampNeg < 100000; omega)
  unfold f_X10_cut
  rw [lim_nI hn, ht]; simp only [bs]
  rw [h5, put_C (by omega) (by omega)]
  obtain ⟨s, s1, s2, s3, s4⟩ := isSk_ex (B := B) (n := n) (n - p) p rfl h2
  refine ⟨_, L, rfl, ⟨h7, h6, s, ⟨by omega, s2, fun j j1 j2 => ?_, s4⟩, by omega⟩, ?_, vu_s, upd_s⟩
  · by_cases hj : j < p
    · exact h4 j j1 hj
    · exact s3 j (by omega) j2
  · intro i s' l' h
    have hi := (List.getElem?_eq_some_iff.mp h).1
    show va_up t.2.2.1 L.length _ i = _ ∧ upd t.2.2.2.1 L.length _ i = _ ∧ upd t.2.2.2.2 L.length _ i = _
    rw [vu_n (by omega), upd_n (by omega), upd_n (by omega)]; exact h8 i s' l' h
