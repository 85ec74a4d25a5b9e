/-! the quarrel: going through the sayings, leaving out what isn't needed for it -/
noncomputable def qS (Hn : Nat) (T : Nat → List Sy) (u : Int32) (t k : Nat) (st : (Nat → Int32) × List Nat) : (Nat → Int32) × List Nat :=
  @ite _ (∃ x, FS (CE Hn T (hearI u) (keepI (upd st.1 (12 * t + k) 1))) x) (Classical.propDecidable _) (upd (upd st.1 (12 * t + k) 1) (12 * t + k) 0, st.2 ++ [100 * t + k]) (upd st.1 (12 * t + k) 1, st.2)
noncomputable def qK (Hn : Nat) (T : Nat → List Sy) (u : Int32) (t : Nat) (st : (Nat → Int32) × List Nat) : Nat → (Nat → Int32) × List Nat
  | 0 => st
  | k + 1 => qS Hn T u t k (qK Hn T u t st k)
noncomputable def qT (Hn : Nat) (T : Nat → List Sy) (u : Int32) : Nat → (Nat → Int32) × List Nat
  | 0 => (fun _ => 0, [])
  | t + 1 => if hearI u t then qK Hn T u t (qT Hn T u t) (T t).length else qT Hn T u t
theorem qS_len {Hn : Nat} {T : Nat → List Sy} {u : Int32} {t k : Nat} {st : (Nat → Int32) × List Nat} : (qS Hn T u t k st).2.length ≤ st.2.length + 1 := by
  unfold qS
  split
  · simp
  · simp
theorem qK_len {Hn : Nat} {T : Nat → List Sy} {u : Int32} {t : Nat} {st : (Nat → Int32) × List Nat} : ∀ k, (qK Hn T u t st k).2.length ≤ st.2.length + k
  | 0 => Nat.le_refl _
  | k + 1 => by have h1 := qK_len k (Hn := Hn) (T := T) (u := u) (t := t) (st := st); have h2 := qS_len (Hn := Hn) (T := T) (u := u) (t := t) (k := k) (st := qK Hn T u t st k); unfold qK; omega
theorem qT_len {Hn : Nat} {T : Nat → List Sy} (hT : TOk Hn T) {u : Int32} : ∀ t, t ≤ 6 → (qT Hn T u t).2.length ≤ 12 * t
  | 0, _ => Nat.le_refl _
  | t + 1, h => by
    have h1 := qT_len hT (u := u) t (by omega)
    have h2 := (hT t (by omega)).1
    unfold qT
    split
    · have h3 := qK_len (T t).length (Hn := Hn) (T := T) (u := u) (t := t) (st := qT Hn T u t)
      omega
    · omega
def ag72 (a b : Nat → Int32) : Prop := ∀ i, i < 72 → a i = b i
theorem ag_upd {a b : Nat → Int32} (h : ag72 a b) (k : Nat) (x : Int32) : ag72 (upd a k x) (upd b k x) := by
  intro i hi
  by_cases e : i = k
  · subst e; rw [upd_s, upd_s]
  · rw [upd_n e, upd_n e]; exact h i hi
theorem CE_ag {Hn : Nat} {T : Nat → List Sy} (hT : TOk Hn T) {u : Int32} {a b : Nat → Int32} (h : ag72 a b) : CE Hn T (hearI u) (keepI a) = CE Hn T (hearI u) (keepI b) := by
  unfold CE
  rw [tellK_congr 6 (fun t ht k hk => ?_)]
  have h1 := (hT t ht).1
  unfold keepI
  rw [h _ (by omega)]
def encQ (n : Int32) (row : Nat → Int32) (Q : List Nat) : Prop := n = nI Q.length ∧ ∀ i e, Q[i]? = some e → row i = nI e
theorem encQ_add {n : Int32} {row : Nat → Int32} {Q : List Nat} (h : encQ n row Q) (e : Nat) (x : Int32) (hx : x = nI e) (hQ : Q.length < 72) : vp_in n 72 ∧ encQ (n + 1) (upd row n.toNatClampNeg x) (Q ++ [e]) := by
  refine ⟨by rw [h.1]; exact vp_in_nI hQ (by omega), by rw [h.1, nI_1]; simp, fun i d hd => ?_⟩
  rw [h.1, nI_clamp (by omega)]
  by_cases hi : i < Q.length
  · rw [List.getElem?_append_left hi] at hd
    rw [upd_n (by omega)]
    exact h.2 i d hd
  · have hi2 : i = Q.length := by
      have := (List.getElem?_eq_some_iff.mp hd).1
      simp at this
      omega
    subst hi2
    rw [List.getElem?_append_right (Nat.le_refl _), Nat.sub_self] at hd
    cases hd
    rw [upd_s, hx]
