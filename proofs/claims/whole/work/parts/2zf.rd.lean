/-! what reading gives is in order -/
def fkO (e : Ft) : Prop := 1 ≤ e.1 ∧ e.1 ≤ 4
section PO
variable {B : Nat → Nat} {n : Nat} {L : List (Nat × Nat)}
theorem num_ft {i least : Nat} {e : Ft} (h : pNum B n L i least = .inl e) : fkO e := by
  unfold pNum at h
  split at h
  · split at h
    · cases h; exact ⟨by dsimp only; omega, by dsimp only; omega⟩
    · cases h
  · cases h; exact ⟨by dsimp only; omega, by dsimp only; omega⟩
theorem hap_ft {NL : List (List Nat)} {i : Nat} {but : Option Nat} {e : Ft} (h : pHap B n L NL i but = .inl e) : fkO e := by
  unfold pHap at h
  split at h
  · split at h
    · split at h
      · cases h; exact ⟨by dsimp only; omega, by dsimp only; omega⟩
      · cases h
    · split at h
      · cases h; exact ⟨by dsimp only; omega, by dsimp only; omega⟩
      · cases h
  · cases h; exact ⟨by dsimp only; omega, by dsimp only; omega⟩
theorem span_ft {i least : Nat} {must : Bool} {e : Ft} (h : pSpan B n L i least must = .inl e) : fkO e := by
  unfold pSpan at h
  cases hx : pNum B n L i least with
  | inl e' => rw [hx] at h; cases h; exact num_ft hx
  | inr v =>
    rw [hx] at h
    unfold pb at h
    dsimp only at h
    split at h
    · cases hy : pNum B n L (v.2 + 1) v.1 with
      | inl e' => rw [hy] at h; cases h; exact num_ft hy
      | inr v' => rw [hy] at h; cases h
    · split at h
      · cases h; exact ⟨by dsimp only; omega, by dsimp only; omega⟩
      · cases h
theorem span_ok {i least a i' : Nat} {b : Option Nat} {must : Bool} (h : pSpan B n L i least must = .inr (a, b, i')) : a ≤ 9999 ∧ (∀ d, b = some d → d ≤ 9999) ∧ i' ≤ L.length ∧ (must = true → b.isSome = true) := by
  unfold pSpan at h
  cases hx : pNum B n L i least with
  | inl e' => rw [hx] at h; cases h
  | inr v =>
    obtain ⟨v, j⟩ := v
    obtain ⟨n1, n2, n3, n4⟩ := num_ok hx
    rw [hx] at h
    unfold pb at h
    dsimp only at h
    split at h
    · cases hy : pNum B n L (j + 1) v with
      | inl e' => rw [hy] at h; cases h
      | inr v' =>
        obtain ⟨v', j'⟩ := v'
        obtain ⟨m1, m2, m3, m4⟩ := num_ok hy
        rw [hy] at h; cases h
        exact ⟨n3, fun d hd => by cases hd; exact m3, by omega, fun _ => rfl⟩
    · split at h
      · cases h
      · rename_i hm
        cases h
        exact ⟨n3, fun d hd => (by cases hd), by omega, fun z => absurd z hm⟩
theorem rest_ft {NL : List (List Nat)} {h i : Nat} {e : Ft} (hx : pRest B n L NL h i = .inl e) : fkO e := by
  unfold pRest at hx
  split at hx
  · cases hy : pSpan B n L (i + 1) 0 (decide (tyT B L i = 1)) with
    | inl e' => rw [hy] at hx; cases hx; exact span_ft hy
    | inr v => rw [hy] at hx; cases hx
  · split at hx
    · cases hy : pNum B n L (i + 1) 0 with
      | inl e' => rw [hy] at hx; cases hx; exact num_ft hy
      | inr v => rw [hy] at hx; cases hx
    · split at hx
      · cases hy : pHap B n L NL (i + 1) (some h) with
        | inl e' => rw [hy] at hx; cases hx; exact hap_ft hy
        | inr v =>
          rw [hy] at hx
          unfold pb at hx
          dsimp only at hx
          split at hx
          · cases hz : pSpan B n L (v.2.2 + 1) 1 false with
            | inl e' => rw [hz] at hx; cases hx; exact span_ft hz
            | inr v' => rw [hz] at hx; cases hx
          · cases hx
      · cases hx; exact ⟨by dsimp only; omega, by dsimp only; omega⟩
theorem stop_ft {x : Ft ⊕ (Sy × List (List Nat) × Nat)} {e : Ft} (h0 : ∀ e', x = .inl e' → fkO e') (hx : pStop B n L x = .inl e) : fkO e := by
  cases x with
  | inl e' => cases hx; exact h0 _ rfl
  | inr v =>
    unfold pStop pb at hx
    dsimp only at hx
    split at hx
    · cases hx
    · cases hx; exact ⟨by dsimp only; omega, by dsimp only; omega⟩
theorem rest_ok (hE : tkE B n L) {NL NL' : List (List Nat)} (hN : nmsOk NL) {h i i' : Nat} {s : Sy} (hh : h < NL.length) (hx : pRest B n L NL h i = .inr (s, NL', i')) : sOk NL'.length s ∧ nmsOk NL' ∧ NL <+: NL' ∧ i' ≤ L.length ∧ s.2.1 = h := by
  unfold pRest at hx
  split at hx
  · rename_i hk
    cases hy : pSpan B n L (i + 1) 0 (decide (tyT B L i = 1)) with
    | inl e' => rw [hy] at hx; cases hx
    | inr v =>
      obtain ⟨a, b, j⟩ := v
      rw [hy] at hx; cases hx
      obtain ⟨o1, o2, o3, o4⟩ := span_ok hy
      refine ⟨⟨by dsimp only; omega, hh, fun z => ?_, fun d hd => by cases hd; exact o1, o2, fun _ => rfl, fun z => o4 (decide_eq_true z)⟩, hN, List.prefix_refl _, o3, rfl⟩
      dsimp only at z; omega
  · split at hx
    · rename_i h1 hk
      cases hy : pNum B n L (i + 1) 0 with
      | inl e' => rw [hy] at hx; cases hx
      | inr v =>
        obtain ⟨a, j⟩ := v
        rw [hy] at hx; cases hx
        obtain ⟨o1, o2, o3, o4⟩ := num_ok hy
        refine ⟨⟨by dsimp only; omega, hh, fun z => ?_, fun d hd => by cases hd; exact o3, fun d hd => (by cases hd), fun _ => rfl, fun z => ?_⟩, hN, List.prefix_refl _, by omega, rfl⟩
        · dsimp only at z; omega
        · dsimp only at z; omega
    · split at hx
      · rename_i h1 h2 hk
        cases hy : pHap B n L NL (i + 1) (some h) with
        | inl e' => rw [hy] at hx; cases hx
        | inr v =>
          obtain ⟨o, NLx, j⟩ := v
          rw [hy] at hx
          have hok : i + 1 < L.length ∧ j = i + 1 + 1 ∧ nmsOk NLx ∧ NL <+: NLx ∧ o < NLx.length := by
            rcases hap_ok hE hN hy with z | z
            · exact ⟨z.1, z.2.1, z.2.2.1, z.2.2.2.1, z.2.2.2.2.1⟩
            · exact ⟨z.1, z.2.1, z.2.2.1, z.2.2.2.1, z.2.2.2.2.1⟩
          obtain ⟨g1, g2, g3, g4, g5⟩ := hok
          have gl := g4.length_le
          unfold pb at hx
          dsimp only at hx
          split at hx
          · cases hz : pSpan B n L (j + 1) 1 false with
            | inl e' => rw [hz] at hx; cases hx
            | inr v' =>
              obtain ⟨a, b, j'⟩ := v'
              rw [hz] at hx; cases hx
              obtain ⟨o1, o2, o3, o4⟩ := span_ok hz
              refine ⟨⟨by dsimp only; omega, by dsimp only; omega, fun _ => g5, fun d hd => by cases hd; exact o1, o2, fun _ => rfl, fun z => ?_⟩, g3, g4, o3, rfl⟩
              dsimp only at z; omega
          · cases hx
            refine ⟨⟨by dsimp only; omega, by dsimp only; omega, fun _ => g5, fun d hd => (by cases hd), fun d hd => (by cases hd), fun z => ?_, fun z => ?_⟩, g3, g4, by omega, rfl⟩
            · dsimp only at z; omega
            · dsimp only at z; omega
      · cases hx
theorem stop_ok {x : Ft ⊕ (Sy × List (List Nat) × Nat)} {v : Sy × List (List Nat) × Nat} (hx : pStop B n L x = .inr v) : ∃ i, x = .inr (v.1, v.2.1, i) ∧ v.2.2 = i + 1 ∧ i < L.length := by
  cases x with
  | inl e' => cases hx
  | inr w =>
    unfold pStop pb at hx
    dsimp only at hx
    split at hx
    · rename_i h10
      cases hx
      exact ⟨_, rfl, rfl, (tok_of h10 (by omega)).1⟩
    · cases hx
end PO
theorem sOk_mono {H H' : Nat} {s : Sy} (h : sOk H s) (hle : H ≤ H') : sOk H' s := by
  obtain ⟨h1, h2, h3, h4⟩ := h
  exact ⟨h1, by omega, fun z => by have := h3 z; omega, h4⟩
/-! the class reads a text -/
theorem begin_C {a : Nat → Int32} {B : Nat → Nat} {n : Nat} {L : List (Nat × Nat)} {ty : Nat → Nat} {st ln : Nat → Int32} (hn : n ≤ 440) (hB : BY a n B) (hL : TKS B n L) (hT : encT B n L ty st ln) {i k u : Nat} (hi : i ≤ L.length) {NL : List (List Nat)} (hN : nmsOk NL) {le nl : Nat → Int32} (hE : encN le nl NL) (fk fp : Int32) (ow ot fs sn pc : Nat → Int32) (hk : k ≤ 12) (hu : u < 7) :
    ∃ q, f_X5_readBeginning a (nI NL.length) le nl (nI i) fk fp ty st ln ow ot fs sn pc (nI k) u = some q ∧
      (tyT B L i = 8 ∧ k = 12 → q.1 = 0 ∧ q.2.1 = nI NL.length ∧ encN q.2.2.1 q.2.2.2.1 NL ∧ q.2.2.2.2.2.1 = nI 4 ∧ q.2.2.2.2.2.2.1 = nI (stT n L i)) ∧
      (¬ (tyT B L i = 8 ∧ k = 12) → hapC (pHap B n L NL i none) NL q.1 q.2.1 q.2.2.2.2.1 q.2.2.2.2.2.1 q.2.2.2.2.2.2.1 (q.2.2.2.2.2.2.2.1 (12 * u + k)) q.2.2.1 q.2.2.2.1 fk fp ∧ (q.1 = 1 → k < 12 ∧ q.2.2.2.2.2.2.2.2.1 (12 * u + k) = -1 ∧ q.2.2.2.2.2.2.2.2.2.1 (12 * u + k) = -1 ∧ q.2.2.2.2.2.2.2.2.2.2.1 (12 * u + k) = -1 ∧ q.2.2.2.2.2.2.2.2.2.2.2 (12 * u + k) = nI (stT n L i))) ∧
      (∀ x, (x ≠ 12 * u + k ∨ q.1 = 0) → q.2.2.2.2.2.2.2.1 x = ow x ∧ q.2.2.2.2.2.2.2.2.1 x = ot x ∧ q.2.2.2.2.2.2.2.2.2.1 x = fs x ∧ q.2.2.2.2.2.2.2.2.2.2.1 x = sn x ∧ q.2.2.2.2.2.2.2.2.2.2.2 x = pc x) ∧ (q.1 = 0 ∨ q.1 = 1) := by
  have h4 := lim_le n
  have hl := hL.2.1
  have hN1 := hN.1
  unfold f_X5_readBeginning
  rw [is_C hL hT hi (by omega), ref_C hL hT hi, ref_C hL hT hi]
  simp only [bs]
  by_cases h8 : tyT B L i = 8
  · obtain ⟨hlt, s, l, hx, h3, h5⟩ := tok_of h8 (by omega)
    have hnm := hap_nm hL.1 h8
    rw [h5] at hnm
    obtain ⟨t1, t2, t3⟩ := hT.1 i s l hx
    obtain ⟨k1, k2, k3, k4⟩ := hL.1 i s l hx
    rw [decide_eq_true h8, ob_1, if_neg (show ¬ (1 : Int32) = 0 by decide)]
    by_cases hk12 : k = 12
    · rw [if_neg (show ¬ nI k < (12 : Int32) from nI_nlt (a := k) (b := 12) (by omega) (by omega)), gB_of (Or.inl rfl)]
      exact ⟨_, rfl, fun _ => ⟨rfl, rfl, hE, rfl, rfl⟩, fun z => absurd ⟨h8, hk12⟩ z, fun x _ => ⟨rfl, rfl, rfl, rfl, rfl⟩, Or.inl rfl⟩
    · rw [if_pos (show nI k < (12 : Int32) from nI_lt (a := k) (b := 12) (by omega) (by omega)), gIn_of (vp_in_nI (by omega) (by omega)), gIn_of (vp_in_nI (by omega) (by omega)), nI_clamp (show i < 2 ^ 31 by omega), t2, t3]
      have hs2 : stT n L i = s := by unfold stT; rw [hx]
      obtain ⟨q, eq, c1, c2, c3⟩ := draft_C hn hB hN hE k3 hnm
      rw [eq]; simp only [bs]
      rw [gN_of hu, gIn_of (vp_in_nI (show k < 12 by omega) (by omega)), gIn_of (vp_in_nI (show i < 401 by omega) (by omega)), nI_clamp (show k < 2 ^ 31 by omega), gN_of (show 12 * u + k < 84 by omega), pass_C hL hlt]
      unfold f_X6_begin
      rw [gN_of (show 12 * u + k < 84 by omega)]
      simp only [bs]
      rw [gB_of (Or.inr rfl), gB_of (Or.inl rfl)]
      have hno : ¬ (tyT B L i = 8 ∧ k = 12) := fun z => hk12 z.2
      have hfr : ∀ (r : Int32) (x : Nat), (x ≠ 12 * u + k ∨ (1 : Int32) = 0) → upd ow (12 * u + k) r x = ow x ∧ upd ot (12 * u + k) (-1) x = ot x ∧ upd fs (12 * u + k) (-1) x = fs x ∧ upd sn (12 * u + k) (-1) x = sn x ∧ upd pc (12 * u + k) (nI s) x = pc x := by
        intro r x hx
        have hx : x ≠ 12 * u + k := hx.elim id (fun z => absurd z (by decide))
        exact ⟨upd_n hx, upd_n hx, upd_n hx, upd_n hx, upd_n hx⟩
      have hpH : pHap B n L NL i none = (match fx NL (bts B s l) with
          | some h => .inr (h, NL, i + 1)
          | none => if NL.length = 20 then .inl (4, stT n L i) else .inr (NL.length, NL ++ [bts B s l], i + 1)) := by
        unfold pHap
        rw [if_pos h8, h5]
        cases fx NL (bts B s l) with
        | some h => exact if_neg (fun z => by cases z)
        | none => rfl
      rw [hpH]
      cases hf : fx NL (bts B s l) with
      | some k' =>
        obtain ⟨d1, d2, d3⟩ := c1 k' hf
        have hk' := (List.getElem?_eq_some_iff.mp (fx_some hf).1).1
        rw [d1, if_neg (nI_n1 (by omega))]
        refine ⟨_, rfl, fun z => absurd z hno, fun _ => ⟨⟨rfl, d2, d3, rfl, rfl, rfl, upd_s⟩, fun _ => ⟨by omega, upd_s, upd_s, upd_s, ?_⟩⟩, hfr _, Or.inr rfl⟩
        rw [hs2]; exact upd_s
      | none =>
        by_cases h20 : NL.length = 20
        · obtain ⟨d1, d2, d3⟩ := c2 hf h20
          rw [d1, if_pos rfl]
          refine ⟨_, rfl, fun z => absurd z hno, fun _ => ⟨?_, fun z => absurd z (show ¬ (0 : Int32) = 1 by decide)⟩, fun x _ => ⟨rfl, rfl, rfl, rfl, rfl⟩, Or.inl rfl⟩
          show hapC (if NL.length = 20 then _ else _) _ _ _ _ _ _ _ _ _ _ _
          rw [if_pos h20]
          exact ⟨rfl, d2, d3, rfl, rfl⟩
        · obtain ⟨d1, d2, d3⟩ := c3 hf (by omega)
          rw [d1, if_neg (nI_n1 (by omega))]
          refine ⟨_, rfl, fun z => absurd z hno, fun _ => ⟨?_, fun _ => ⟨by omega, upd_s, upd_s, upd_s, ?_⟩⟩, hfr _, Or.inr rfl⟩
          · show hapC (if NL.length = 20 then _ else _) _ _ _ _ _ _ _ _ _ _ _
            rw [if_neg h20]
            exact ⟨rfl, by rw [d2]; simp, d3, rfl, rfl, rfl, upd_s⟩
          · rw [hs2]; exact upd_s
  · rw [decide_eq_false h8, ob_0, if_pos rfl, gB_of (Or.inl rfl)]
    have hpH : pHap B n L NL i none = .inl (1, stT n L i) := by unfold pHap; rw [if_neg h8]
    rw [hpH]
    exact ⟨_, rfl, fun z => absurd z.1 h8, fun _ => ⟨⟨rfl, rfl, hE, rfl, rfl⟩, fun z => absurd z (show ¬ (0 : Int32) = 1 by decide)⟩, fun x _ => ⟨rfl, rfl, rfl, rfl, rfl⟩, Or.inl rfl⟩
