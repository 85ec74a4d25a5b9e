/-! the least of all that hold: it is there, and it is good -/
theorem int_min (P : Int → Prop) (b : Int) (hb : ∀ z, P z → b ≤ z) (hex : ∃ z, P z) : ∃ z, P z ∧ ∀ w, P w → z ≤ w := by
  obtain ⟨z0, h0⟩ := hex
  obtain ⟨k, hk, hl⟩ := pk_least (fun k : Nat => P (b + k)) ⟨(z0 - b).toNat, by
    have h1 := hb z0 h0
    show P (b + ((z0 - b).toNat : Int))
    rw [show b + ((z0 - b).toNat : Int) = z0 by omega]
    exact h0⟩
  refine ⟨b + k, hk, fun w hw => ?_⟩
  have h1 := hb w hw
  refine Int.not_lt.mp (fun hlt => hl (w - b).toNat (by omega) ?_)
  show P (b + ((w - b).toNat : Int))
  rw [show b + ((w - b).toNat : Int) = w by omega]
  exact hw
theorem lam_ex {F : (Nat → Int) → Prop} {φ : (Nat → Int) → Nat → Int} {b : Int} {N : Nat} (hF : ∃ x, F x) (hb : ∀ x, F x → ∀ v, v < N → b ≤ φ x v) : ∃ L : Nat → Int, ∀ v, v < N → (∃ x, F x ∧ φ x v = L v) ∧ ∀ x, F x → L v ≤ φ x v := by
  have h : ∀ v : Nat, ∃ z : Int, v < N → (∃ x, F x ∧ φ x v = z) ∧ ∀ x, F x → z ≤ φ x v := by
    intro v
    by_cases hv : v < N
    · obtain ⟨x0, hx0⟩ := hF
      obtain ⟨z, ⟨x, hx, e⟩, hl⟩ := int_min (fun z => ∃ x, F x ∧ φ x v = z) b (fun z ⟨x, hx, e⟩ => by rw [← e]; exact hb x hx v hv) ⟨_, x0, hx0, rfl⟩
      exact ⟨z, fun _ => ⟨⟨x, hx, e⟩, fun y hy => hl _ ⟨y, hy, rfl⟩⟩⟩
    · exact ⟨0, fun h => absurd h hv⟩
  obtain ⟨L, hL⟩ := Classical.axiomOfChoice h
  exact ⟨L, hL⟩
theorem good_src {n N sc : Nat} {tl hd : Nat → Nat} {gp : Nat → Int} {ur K : Int} (hk : ∀ i, i < n → tl i < N ∧ hd i < N) (hF : ∃ x, lkF n tl hd gp x) (hc : ∀ x, lkF n tl hd gp x → ∀ v, v < N → -K ≤ x v - x sc) (hs : sc < N) (hur : ur < -K) :
    ∃ L, good n tl hd gp N ur (fun v => v = sc) L ∧ L sc = 0 ∧ (∀ x, lkF n tl hd gp x → ∀ v, v < N → L v ≤ x v - x sc) ∧ ∀ v, v < N → ∃ x, lkF n tl hd gp x ∧ x v - x sc = L v := by
  obtain ⟨L, hL⟩ := lam_ex (F := lkF n tl hd gp) (φ := fun x v => x v - x sc) (b := -K) (N := N) hF hc
  have h0 : L sc = 0 := by
    obtain ⟨x, hx, e⟩ := (hL sc hs).1
    have e : x sc - x sc = L sc := e
    omega
  have hf : lkF n tl hd gp L := by
    intro i hi
    obtain ⟨k1, k2⟩ := hk i hi
    obtain ⟨x, hx, e⟩ := (hL (hd i) k2).1
    have e : x (hd i) - x sc = L (hd i) := e
    have h1 : L (tl i) ≤ x (tl i) - x sc := (hL (tl i) k1).2 x hx
    have h2 := hx i hi
    omega
  refine ⟨L, ⟨hf, fun v hv => ?_, fun S hS hex => ?_⟩, h0, fun x hx v hv => (hL v hv).2 x hx, fun v hv => (hL v hv).1⟩
  · obtain ⟨x, hx, e⟩ := (hL v hv).1
    have e : x v - x sc = L v := e
    have := hc x hx v hv
    omega
  · refine Classical.byContradiction (fun hno => ?_)
    obtain ⟨v0, hv0, hs0⟩ := hex
    have dS : ∀ v, Decidable (S v) := fun v => Classical.propDecidable (S v)
    have hx : lkF n tl hd gp (fun v => L v - (if S v then 0 else 1)) := by
      intro i hi
      show L (tl i) - (if S (tl i) then 0 else 1) + gp i ≤ L (hd i) - (if S (hd i) then 0 else 1)
      have h1 := hf i hi
      by_cases a : S (tl i)
      · by_cases b : S (hd i)
        · rw [if_pos a, if_pos b]; omega
        · rw [if_pos a, if_neg b]
          have : ¬ L (tl i) + gp i = L (hd i) := fun e => hno ⟨i, hi, a, b, e⟩
          omega
      · rw [if_neg a]; split <;> omega
    have h2 := (hL v0 hv0).2 _ hx
    have h2 : L v0 ≤ (L v0 - (if S v0 then 0 else 1)) - (L sc - (if S sc then 0 else 1)) := h2
    rw [if_neg hs0, if_pos (hS sc rfl)] at h2
    omega
theorem low_ex (x : Nat → Int) : ∀ N : Nat, ∃ c : Int, 0 ≤ c ∧ ∀ v, v < N → -c ≤ x v
  | 0 => ⟨0, Int.le_refl 0, fun v hv => absurd hv (Nat.not_lt_zero v)⟩
  | N + 1 => by
    obtain ⟨c, h1, h2⟩ := low_ex x N
    refine ⟨c + (if x N < 0 then -x N else 0), by split <;> omega, fun v hv => ?_⟩
    by_cases h : v = N
    · subst h; split <;> omega
    · have := h2 v (by omega); split <;> omega
theorem good_all {n N : Nat} {tl hd : Nat → Nat} {gp : Nat → Int} {ur : Int} (hk : ∀ i, i < n → tl i < N ∧ hd i < N) (hF : ∃ x, lkF n tl hd gp x) (hN : 0 < N) (hur : ur < 0) :
    ∃ (L : Nat → Int) (An : Nat → Prop), good n tl hd gp N ur An L ∧ (∀ v, An v → v < N ∧ L v = 0) ∧ (∃ v, An v) ∧ ∀ v, v < N → 0 ≤ L v := by
  obtain ⟨x0, hx0⟩ := hF
  obtain ⟨c0, hc0, hc1⟩ := low_ex x0 N
  have hF2 : ∃ x, lkF n tl hd gp x ∧ ∀ v, v < N → 0 ≤ x v := ⟨fun v => x0 v + c0, fun i hi => by have := hx0 i hi; show x0 (tl i) + c0 + gp i ≤ x0 (hd i) + c0; omega, fun v hv => by have := hc1 v hv; show 0 ≤ x0 v + c0; omega⟩
  obtain ⟨L, hL⟩ := lam_ex (F := fun x => lkF n tl hd gp x ∧ ∀ v, v < N → 0 ≤ x v) (φ := fun x v => x v) (b := 0) (N := N) hF2 (fun x hx v hv => hx.2 v hv)
  have hnn : ∀ v, v < N → 0 ≤ L v := by
    intro v hv
    obtain ⟨x, hx, e⟩ := (hL v hv).1
    rw [← e]; exact hx.2 v hv
  have hf : lkF n tl hd gp L := by
    intro i hi
    obtain ⟨k1, k2⟩ := hk i hi
    obtain ⟨x, hx, e⟩ := (hL (hd i) k2).1
    have e : x (hd i) = L (hd i) := e
    have h1 : L (tl i) ≤ x (tl i) := (hL (tl i) k1).2 x hx
    have h2 := hx.1 i hi
    omega
  have down : ∀ S : Nat → Prop, (∀ v, v < N → L v = 0 → S v) → (∃ v, v < N ∧ ¬ S v) → ∃ i, i < n ∧ S (tl i) ∧ ¬ S (hd i) ∧ L (tl i) + gp i = L (hd i) := by
    intro S hS hex
    refine Classical.byContradiction (fun hno => ?_)
    obtain ⟨v0, hv0, hs0⟩ := hex
    have dS : ∀ v, Decidable (S v) := fun v => Classical.propDecidable (S v)
    have hx : lkF n tl hd gp (fun v => L v - (if S v then 0 else 1)) := by
      intro i hi
      show L (tl i) - (if S (tl i) then 0 else 1) + gp i ≤ L (hd i) - (if S (hd i) then 0 else 1)
      have h1 := hf i hi
      by_cases a : S (tl i)
      · by_cases b : S (hd i)
        · rw [if_pos a, if_pos b]; omega
        · rw [if_pos a, if_neg b]
          have : ¬ L (tl i) + gp i = L (hd i) := fun e => hno ⟨i, hi, a, b, e⟩
          omega
      · rw [if_neg a]; split <;> omega
    have h2 : L v0 ≤ L v0 - (if S v0 then 0 else 1) := (hL v0 hv0).2 _ ⟨hx, fun v hv => by
      show 0 ≤ L v - (if S v then 0 else 1)
      have h3 := hnn v hv
      by_cases a : S v
      · rw [if_pos a]; omega
      · rw [if_neg a]
        have : ¬ L v = 0 := fun e => a (hS v hv e)
        omega⟩
    rw [if_neg hs0] at h2
    omega
  refine ⟨L, fun v => v < N ∧ L v = 0, ⟨hf, fun v hv => by have := hnn v hv; omega, fun S hS hex => down S (fun v hv h => hS v ⟨hv, h⟩) hex⟩, fun v h => h, ?_, hnn⟩
  refine Classical.byContradiction (fun hno => ?_)
  have hx : lkF n tl hd gp (fun v => L v - 1) := fun i hi => by have := hf i hi; show L (tl i) - 1 + gp i ≤ L (hd i) - 1; omega
  have h2 : L 0 ≤ L 0 - 1 := (hL 0 hN).2 _ ⟨hx, fun v hv => by
    show 0 ≤ L v - 1
    have h3 := hnn v hv
    have : ¬ L v = 0 := fun e => hno ⟨v, hv, e⟩
    omega⟩
  omega
