theorem saysK_congr {L : Sy → List Lk} {T : List Sy} {k1 k2 : Nat → Bool} : ∀ n, (∀ k, k < n → k1 k = k2 k) → saysK L T k1 n = saysK L T k2 n
  | 0, _ => rfl
  | n + 1, h => by
    unfold saysK
    rw [saysK_congr n (fun k hk => h k (by omega)), h n (by omega)]
theorem tellK_congr {L : Sy → List Lk} {T : Nat → List Sy} {hear : Nat → Bool} {k1 k2 : Nat → Nat → Bool} : ∀ n, (∀ t, t < n → ∀ k, k < (T t).length → k1 t k = k2 t k) → tellK L T hear k1 n = tellK L T hear k2 n
  | 0, _ => rfl
  | n + 1, h => by
    unfold tellK
    rw [tellK_congr n (fun t ht => h t (by omega)), saysK_congr _ (h n (by omega))]
/-- all sayings of those heard -/
def AE (Hn : Nat) (T : Nat → List Sy) (u : Int32) : List Lk := CE Hn T (hearI u) (fun _ _ => true)
theorem CE_all {Hn : Nat} {T : Nat → List Sy} (hT : TOk Hn T) {u : Int32} {lo : Nat → Int32} (h : ∀ k, k < 72 → lo k = 0) : CE Hn T (hearI u) (keepI lo) = AE Hn T u := by
  unfold AE CE
  rw [tellK_congr 6 (fun t ht k hk => ?_)]
  have h1 := (hT t ht).1
  exact decide_eq_true (h _ (by omega))
theorem BE_all {Hn : Nat} {T : Nat → List Sy} (hT : TOk Hn T) {u : Int32} {lo : Nat → Int32} (h : ∀ k, k < 72 → lo k = 0) : BE Hn T (hearI u) (keepI lo) = BE Hn T (hearI u) (fun _ _ => true) := by
  unfold BE
  rw [tellK_congr 6 (fun t ht k hk => ?_)]
  have h1 := (hT t ht).1
  exact decide_eq_true (h _ (by omega))
def Feas (Hn : Nat) (T : Nat → List Sy) (u : Int32) : Prop := ∃ x, FS (AE Hn T u) x
/-- what the class keeps of an answer: whether those heard agree -/
def wayI (wk wy : Int32) (P : Prop) : Prop := (wk = 0 ∨ wk = 1) ∧ (wy = 0 ∨ wy = 1) ∧ (¬ wk = 0 → (wy = 1 ↔ P))
theorem hasWay_C {Hn : Nat} (hH : Hn ≤ 20) {tt : Nat → Nat} {sz : Nat → Int32} {w : Nat → Nat} {ow ot fs sn : Nat → Int32} {T : Nat → List Sy} (hT : TXc tt sz w ow ot fs sn Hn T) (wk wy mn ms : Int32) (ts hs gs l0 lo : Nat → Int32) (u : Int32) (hlo : ∀ k, k < 72 → lo k = 0) (hw : wayI wk wy (Feas Hn T u)) :
    ∃ q, f_X1_hasWay (nI Hn) tt u wk wy mn ms ts hs gs l0 lo sz w ow ot fs sn = some q ∧ (q.1 = 0 ∨ q.1 = 1) ∧ (q.1 = 1 ↔ Feas Hn T u) ∧ q.2.1 = 1 ∧ q.2.2.1 = q.1 := by
  obtain ⟨h1, h2, h3⟩ := hw
  unfold f_X1_hasWay
  by_cases hz : wk = 0
  · rw [if_pos hz]
    obtain ⟨q, eq, b1, b2, -⟩ := isWay_C hH hT mn ms ts hs gs l0 lo u
    rw [CE_all (TXc_ok hT) hlo] at b2
    rw [eq]; simp only [bs]
    rw [gB_of b1]
    unfold f_X1_hasWay_b24
    rw [gB_of b1]
    exact ⟨_, rfl, b1, b2, rfl, rfl⟩
  · rw [if_neg hz]
    unfold f_X1_hasWay_b24
    rw [gB_of h2]
    exact ⟨_, rfl, h2, h3 hz, h1.resolve_left hz, rfl⟩
