/-! the class reads a saying's rest -/
theorem i10 : ((1 : Int32) = 0) = False := eq_false (by decide)
theorem tk7 : ∀ k, k < 7 → ¬ tkK k = -1 := by decide
theorem tk13 : ∀ k, k < 13 → 7 ≤ k → tkK k = -1 := by decide
/-- what the rest of a saying gives -/
def rsC (x : Ft ⊕ (Sy × List (List Nat) × Nat)) (NL : List (List Nat)) (p : Nat) (fk0 : Int32) (q : Int32 × Int32 × (Nat → Int32) × (Nat → Int32) × Int32 × Int32 × Int32 × (Nat → Nat) × (Nat → Int32) × (Nat → Int32) × (Nat → Int32)) : Prop := match x with
  | .inl e => q.1 = 0 ∧ q.2.2.2.2.2.1 = nI e.1 ∧ q.2.2.2.2.2.2.1 = nI e.2 ∧ ∃ NL', NL <+: NL' ∧ nmsOk NL' ∧ q.2.1 = nI NL'.length ∧ encN q.2.2.1 q.2.2.2.1 NL'
  | .inr v => q.1 = 1 ∧ q.2.2.2.2.2.1 = fk0 ∧ q.2.2.2.2.1 = nI v.2.2 ∧ q.2.1 = nI v.2.1.length ∧ encN q.2.2.1 q.2.2.2.1 v.2.1 ∧ q.2.2.2.2.2.2.2.1 p = v.1.1 ∧ (5 ≤ v.1.1 → q.2.2.2.2.2.2.2.2.1 p = nI v.1.2.2.1) ∧ (v.1.1 < 5 → q.2.2.2.2.2.2.2.2.1 p = -1) ∧ q.2.2.2.2.2.2.2.2.2.1 p = oI v.1.2.2.2.1 ∧ q.2.2.2.2.2.2.2.2.2.2 p = oI v.1.2.2.2.2
def frC (p : Nat) (w : Nat → Nat) (ot fs sn : Nat → Int32) (q : Int32 × Int32 × (Nat → Int32) × (Nat → Int32) × Int32 × Int32 × Int32 × (Nat → Nat) × (Nat → Int32) × (Nat → Int32) × (Nat → Int32)) : Prop :=
  ∀ x, x ≠ p → q.2.2.2.2.2.2.2.1 x = w x ∧ q.2.2.2.2.2.2.2.2.1 x = ot x ∧ q.2.2.2.2.2.2.2.2.2.1 x = fs x ∧ q.2.2.2.2.2.2.2.2.2.2 x = sn x
theorem rest_C {a : Nat → Int32} {B : Nat → Nat} {n : Nat} {L : List (Nat × Nat)} {ty : Nat → Nat} {st ln : Nat → Int32} (hn : n ≤ 440) (hB : BY a n B) (hL : TKS B n L) (hT : encT B n L ty st ln) {i h : Nat} (hi : i ≤ L.length) {NL : List (List Nat)} (hN : nmsOk NL) {le nl : Nat → Int32} (hE : encN le nl NL) (hh : h < NL.length) (fk fp : Int32) (w : Nat → Nat) (ow ot fs sn : Nat → Int32) {p : Nat} (hp : p < 84) (how : ow p = nI h) (hot : ot p = -1) (hfs : fs p = -1) (hsn : sn p = -1) :
    ∃ q, f_X5_readRest a (nI NL.length) le nl (nI i) fk fp ty st ln w ow ot fs sn p = some q ∧ rsC (pStop B n L (pRest B n L NL h i)) NL p fk q ∧ frC p w ot fs sn q := by
  have h4 := lim_le n
  have hl := hL.2.1
  have f1 : ∀ (k : Nat) (x : Nat), x ≠ p → va_up w p k x = w x := fun k x hx => vu_n hx
  have f2 : ∀ (g : Nat → Int32) (k : Int32) (x : Nat), x ≠ p → upd g p k x = g x := fun g k x hx => upd_n hx
  unfold f_X5_readRest
  rw [gIn_of (vp_in_nI (by omega) (by omega)), gN_of hp, nI_clamp (by omega), (ty_i hT hi).1]
  simp only [vu_s]
  rw [gN_of (tyT_lt B L i)]
  have err : ∀ (e : Ft) (y : Int32 × Int32 × (Nat → Int32) × (Nat → Int32) × Int32 × Int32 × Int32 × (Nat → Nat) × (Nat → Int32) × (Nat → Int32) × (Nat → Int32)), y.1 = 0 → y.2.2.2.2.2.1 = nI e.1 → y.2.2.2.2.2.2.1 = nI e.2 → y.2.1 = nI NL.length → encN y.2.2.1 y.2.2.2.1 NL → rsC (.inl e) NL p fk y :=
    fun e y g1 g2 g3 g4 g5 => ⟨g1, g2, g3, NL, List.prefix_refl _, hN, g4, g5⟩
  by_cases h7 : tyT B L i < 7
  · have hlt : i < L.length := (tok_of (w := tyT B L i) rfl (by omega)).1
    rw [if_neg (tk7 _ h7), pass_C hL hlt]
    simp only [bs]
    rw [gN_of hp, gN_of (tyT_lt B L i), ord13 _ (tyT_lt B L i)]
    simp only [bs]
    rw [gIn_of (vp_in_nI (tyT_lt B L i) (by omega)), nI_clamp (by omega), sw7 _ h7]
    unfold pRest
    have hc : tyT B L i = 0 ∨ tyT B L i = 1 ∨ tyT B L i = 2 ∨ tyT B L i = 3 ∨ tyT B L i = 4 ∨ tyT B L i = 5 ∨ tyT B L i = 6 := by omega
    have efirst : f_X5_readFirst a (nI (i + 1)) fk fp ty st ln fs p 0 = some (rFst (pNum B n L (i + 1) 0) (i + 1) fk fp fs p) := first_C (least := 0) hn hB hL hT (by omega) (by omega) fk fp fs hp
    -- the kinds with one number
    have one : ∀ K, (K = 0 ∨ K = 2 ∨ K = 3) → tyT B L i = K → ∃ q, ((f_X5_readFirst a (nI (i + 1)) fk fp ty st ln fs p 0).bind (fun q62 =>
        if q62.1 = 0 then some (0, nI NL.length, le, nl, q62.2.1, q62.2.2.1, q62.2.2.2.1, va_up w p K, ot, q62.2.2.2.2, sn)
        else (f_X5_readStop q62.2.1 q62.2.2.1 q62.2.2.2.1 ty st).bind (fun q64 =>
          if q64.1 = 0 then some (0, nI NL.length, le, nl, q64.2.1, q64.2.2.1, q64.2.2.2, va_up w p K, ot, q62.2.2.2.2, sn)
          else some (1, nI NL.length, le, nl, q64.2.1, q64.2.2.1, q64.2.2.2, va_up w p K, ot, q62.2.2.2.2, sn)))) = some q ∧ rsC (pStop B n L (pb (pNum B n L (i + 1) 0) (fun q => .inr ((K, h, 0, some q.1, none), NL, q.2)))) NL p fk q ∧ frC p w ot fs sn q := by
      intro K hK eK
      rw [efirst]
      simp only [bs]
      cases hx : pNum B n L (i + 1) 0 with
      | inl e =>
        simp only [rFst, if_true]
        exact ⟨_, rfl, err e _ rfl rfl rfl rfl hE, fun x hx => ⟨f1 K x hx, rfl, f2 _ _ x hx, rfl⟩⟩
      | inr v =>
        obtain ⟨v, i'⟩ := v
        obtain ⟨n1, n2, n3, n4⟩ := num_ok hx
        simp only [rFst, i10, if_false]
        rw [stop_C hL hT (by omega)]
        simp only [bs]
        unfold pStop pb
        dsimp only
        by_cases h10 : tyT B L i' = 10
        · rw [if_pos h10, if_pos h10]
          simp only [i10, if_false]
          refine ⟨_, rfl, ⟨rfl, rfl, rfl, rfl, hE, vu_s, fun z => ?_, fun _ => hot, upd_s, hsn⟩, fun x hx => ⟨f1 K x hx, rfl, f2 _ _ x hx, rfl⟩⟩
          exact absurd (show 5 ≤ K from z) (by omega)
        · rw [if_neg h10, if_neg h10]
          simp only [if_true]
          exact ⟨_, rfl, err (1, stT n L i') _ rfl rfl rfl rfl hE, fun x hx => ⟨f1 K x hx, rfl, f2 _ _ x hx, rfl⟩⟩
    rcases hc with eK | eK | eK | eK | eK | eK | eK
    · rw [eK, if_neg (by decide), if_neg (by decide), if_neg (by decide), if_neg (by decide), if_neg (by decide), if_pos (by decide)]
      exact one 0 (by omega) eK
    · -- from
      rw [eK, if_pos (by decide), if_pos (by decide), efirst]
      simp only [bs]
      unfold pSpan
      cases hx : pNum B n L (i + 1) 0 with
      | inl e =>
        simp only [rFst, if_true]
        exact ⟨_, rfl, err e _ rfl rfl rfl rfl hE, fun x hx => ⟨f1 1 x hx, rfl, f2 _ _ x hx, rfl⟩⟩
      | inr v =>
        obtain ⟨v, i'⟩ := v
        obtain ⟨n1, n2, n3, n4⟩ := num_ok hx
        simp only [rFst, i10, if_false]
        rw [second_C hn hB hL hT (by omega) n3 fk fp (upd fs p (nI v)) sn hp upd_s]
        simp only [bs, rSec]
        unfold pStop pb
        dsimp only
        by_cases h7' : tyT B L i' = 7
        · rw [decide_eq_true h7', if_pos rfl, if_pos h7']
          have hi' := (tok_of h7' (by omega)).1
          cases hy : pNum B n L (i' + 1) v with
          | inl e =>
            simp only [rFst, if_true]
            exact ⟨_, rfl, err e _ rfl rfl rfl rfl hE, fun x hx => ⟨f1 1 x hx, rfl, f2 _ _ x hx, f2 _ _ x hx⟩⟩
          | inr v2 =>
            obtain ⟨v2, i2⟩ := v2
            obtain ⟨m1, m2, m3, m4⟩ := num_ok hy
            simp only [rFst, i10, if_false]
            rw [stop_C hL hT (by omega)]
            simp only [bs]
            by_cases h10 : tyT B L i2 = 10
            · rw [if_pos h10, if_pos h10]
              simp only [i10, if_false]
              exact ⟨_, rfl, ⟨rfl, rfl, rfl, rfl, hE, vu_s, fun z => absurd (show 5 ≤ 1 from z) (by omega), fun _ => hot, upd_s, upd_s⟩, fun x hx => ⟨f1 1 x hx, rfl, f2 _ _ x hx, f2 _ _ x hx⟩⟩
            · rw [if_neg h10, if_neg h10]
              simp only [if_true]
              exact ⟨_, rfl, err (1, stT n L i2) _ rfl rfl rfl rfl hE, fun x hx => ⟨f1 1 x hx, rfl, f2 _ _ x hx, f2 _ _ x hx⟩⟩
        · rw [decide_eq_false h7', if_neg (show ¬ (false = true) by decide), if_neg h7']
          simp only [if_true, decide_true]
          exact ⟨_, rfl, err (1, stT n L i') _ rfl rfl rfl rfl hE, fun x hx => ⟨f1 1 x hx, rfl, f2 _ _ x hx, rfl⟩⟩
    · rw [eK, if_neg (by decide), if_neg (by decide), if_neg (by decide), if_neg (by decide), if_neg (by decide), if_pos (by decide)]
      exact one 2 (by omega) eK
    · rw [eK, if_neg (by decide), if_neg (by decide), if_neg (by decide), if_neg (by decide), if_neg (by decide), if_pos (by decide)]
      exact one 3 (by omega) eK
    · -- lasts
      rw [eK, if_neg (by decide), if_pos (by decide), if_pos (by decide), efirst]
      simp only [bs]
      unfold pSpan
      cases hx : pNum B n L (i + 1) 0 with
      | inl e =>
        simp only [rFst, if_true]
        exact ⟨_, rfl, err e _ rfl rfl rfl rfl hE, fun x hx => ⟨f1 4 x hx, rfl, f2 _ _ x hx, rfl⟩⟩
      | inr v =>
        obtain ⟨v, i'⟩ := v
        obtain ⟨n1, n2, n3, n4⟩ := num_ok hx
        simp only [rFst, i10, if_false]
        rw [secIf_C hn hB hL hT (by omega) n3 fk fp (upd fs p (nI v)) sn hp upd_s]
        simp only [bs, rSec]
        unfold pStop pb
        dsimp only
        by_cases h7' : tyT B L i' = 7
        · rw [decide_eq_true h7', if_pos rfl, if_pos h7']
          have hi' := (tok_of h7' (by omega)).1
          cases hy : pNum B n L (i' + 1) v with
          | inl e =>
            simp only [rFst, if_true]
            exact ⟨_, rfl, err e _ rfl rfl rfl rfl hE, fun x hx => ⟨f1 4 x hx, rfl, f2 _ _ x hx, f2 _ _ x hx⟩⟩
          | inr v2 =>
            obtain ⟨v2, i2⟩ := v2
            obtain ⟨m1, m2, m3, m4⟩ := num_ok hy
            simp only [rFst, i10, if_false]
            rw [stop_C hL hT (by omega)]
            simp only [bs]
            by_cases h10 : tyT B L i2 = 10
            · rw [if_pos h10, if_pos h10]
              simp only [i10, if_false]
              exact ⟨_, rfl, ⟨rfl, rfl, rfl, rfl, hE, vu_s, fun z => absurd (show 5 ≤ 4 from z) (by omega), fun _ => hot, upd_s, upd_s⟩, fun x hx => ⟨f1 4 x hx, rfl, f2 _ _ x hx, f2 _ _ x hx⟩⟩
            · rw [if_neg h10, if_neg h10]
              simp only [if_true]
              exact ⟨_, rfl, err (1, stT n L i2) _ rfl rfl rfl rfl hE, fun x hx => ⟨f1 4 x hx, rfl, f2 _ _ x hx, f2 _ _ x hx⟩⟩
        · rw [decide_eq_false h7', if_neg (show ¬ (false = true) by decide), if_neg h7', if_neg (show ¬ (decide ((4 : Nat) = 1) = true) by decide)]
          simp only [i10, if_false]
          rw [stop_C hL hT (by omega)]
          simp only [bs]
          by_cases h10 : tyT B L i' = 10
          · rw [if_pos h10, if_pos h10]
            simp only [i10, if_false]
            exact ⟨_, rfl, ⟨rfl, rfl, rfl, rfl, hE, vu_s, fun z => absurd (show 5 ≤ 4 from z) (by omega), fun _ => hot, upd_s, hsn⟩, fun x hx => ⟨f1 4 x hx, rfl, f2 _ _ x hx, rfl⟩⟩
          · rw [if_neg h10, if_neg h10]
            simp only [if_true]
            exact ⟨_, rfl, err (1, stT n L i') _ rfl rfl rfl rfl hE, fun x hx => ⟨f1 4 x hx, rfl, f2 _ _ x hx, rfl⟩⟩
    · -- before
      rw [eK, if_neg (by decide), if_neg (by decide), if_pos (by decide), if_neg (by decide), if_neg (by decide), if_pos (by decide)]
      obtain ⟨q, eq, hq, hfr⟩ := other_C hn hB hL hT (show i + 1 ≤ L.length by omega) hN hE hh fk fp ow ot hp how
      rw [eq]; simp only [bs]
      cases hx : pHap B n L NL (i + 1) (some h) with
      | inl e =>
        rw [hx] at hq
        obtain ⟨g1, g2, g3, g5, g6⟩ := hq
        rw [if_pos g1]
        exact ⟨_, rfl, err e _ rfl g5 g6 g2 g3, fun x hx => ⟨f1 5 x hx, hfr x hx, rfl, rfl⟩⟩
      | inr v =>
        obtain ⟨o, NL', i'⟩ := v
        rw [hx] at hq
        obtain ⟨g1, g2, g3, g5, g6, g7, g8⟩ := hq
        dsimp only at g2 g3 g5 g8
        have hok : i + 1 < L.length ∧ i' = i + 1 + 1 ∧ nmsOk NL' ∧ NL <+: NL' := by
          rcases hap_ok hL.1 hN hx with z | z
          · exact ⟨z.1, z.2.1, z.2.2.1, z.2.2.2.1⟩
          · exact ⟨z.1, z.2.1, z.2.2.1, z.2.2.2.1⟩
        obtain ⟨k1, k2, k3, k5⟩ := hok
        have err2 : ∀ (e : Ft) (y : Int32 × Int32 × (Nat → Int32) × (Nat → Int32) × Int32 × Int32 × Int32 × (Nat → Nat) × (Nat → Int32) × (Nat → Int32) × (Nat → Int32)), y.1 = 0 → y.2.2.2.2.2.1 = nI e.1 → y.2.2.2.2.2.2.1 = nI e.2 → y.2.1 = nI NL'.length → encN y.2.2.1 y.2.2.2.1 NL' → rsC (.inl e) NL p fk y :=
          fun e y g1 g2 g3 g4 g5 => ⟨g1, g2, g3, NL', k5, k3, g4, g5⟩
        rw [if_neg (by rw [g1]; decide), g5, g6, g7, gap_C hn hB hL hT (by omega) fk fp fs hp]
        simp only [bs]
        unfold pStop pb
        dsimp only
        by_cases h2 : tyT B L i' = 2
        · rw [if_pos h2, if_pos (show True ∧ tyT B L i' = 2 from ⟨trivial, h2⟩)]
          have hi' := (tok_of h2 (by omega)).1
          unfold pSpan pb
          cases hy : pNum B n L (i' + 1) 1 with
          | inl e =>
            simp only [rFst, if_true]
            exact ⟨_, rfl, err2 e _ rfl rfl rfl g2 g3, fun x hx => ⟨f1 5 x hx, hfr x hx, f2 _ _ x hx, rfl⟩⟩
          | inr v =>
            obtain ⟨v, i2⟩ := v
            obtain ⟨n1, n2, n3, n4⟩ := num_ok hy
            simp only [rFst, i10, if_false]
            rw [secIf_C hn hB hL hT (by omega) n3 fk fp (upd fs p (nI v)) sn hp upd_s]
            simp only [bs, rSec]
            by_cases h7' : tyT B L i2 = 7
            · rw [decide_eq_true h7', if_pos rfl, if_pos h7']
              have hi2 := (tok_of h7' (by omega)).1
              cases hz : pNum B n L (i2 + 1) v with
              | inl e =>
                simp only [rFst, if_true]
                exact ⟨_, rfl, err2 e _ rfl rfl rfl g2 g3, fun x hx => ⟨f1 5 x hx, hfr x hx, f2 _ _ x hx, f2 _ _ x hx⟩⟩
              | inr v2 =>
                obtain ⟨v2, i3⟩ := v2
                obtain ⟨m1, m2, m3, m4⟩ := num_ok hz
                simp only [rFst, i10, if_false]
                rw [stop_C hL hT (by omega)]
                simp only [bs]
                by_cases h10 : tyT B L i3 = 10
                · rw [if_pos h10, if_pos h10]
                  simp only [i10, if_false]
                  exact ⟨_, rfl, ⟨rfl, rfl, rfl, g2, g3, vu_s, fun _ => g8, fun z => absurd (show 5 < 5 from z) (by omega), upd_s, upd_s⟩, fun x hx => ⟨f1 5 x hx, hfr x hx, f2 _ _ x hx, f2 _ _ x hx⟩⟩
                · rw [if_neg h10, if_neg h10]
                  simp only [if_true]
                  exact ⟨_, rfl, err2 (1, stT n L i3) _ rfl rfl rfl g2 g3, fun x hx => ⟨f1 5 x hx, hfr x hx, f2 _ _ x hx, f2 _ _ x hx⟩⟩
            · rw [decide_eq_false h7', if_neg (show ¬ (false = true) by decide), if_neg h7', if_neg (show ¬ (false = true) by decide)]
              simp only [i10, if_false]
              rw [stop_C hL hT (by omega)]
              simp only [bs]
              by_cases h10 : tyT B L i2 = 10
              · rw [if_pos h10, if_pos h10]
                simp only [i10, if_false]
                exact ⟨_, rfl, ⟨rfl, rfl, rfl, g2, g3, vu_s, fun _ => g8, fun z => absurd (show 5 < 5 from z) (by omega), upd_s, hsn⟩, fun x hx => ⟨f1 5 x hx, hfr x hx, f2 _ _ x hx, rfl⟩⟩
              · rw [if_neg h10, if_neg h10]
                simp only [if_true]
                exact ⟨_, rfl, err2 (1, stT n L i2) _ rfl rfl rfl g2 g3, fun x hx => ⟨f1 5 x hx, hfr x hx, f2 _ _ x hx, rfl⟩⟩
        · rw [if_neg h2, if_neg (show ¬ (True ∧ tyT B L i' = 2) from fun z => h2 z.2)]
          simp only [i10, if_false]
          have esi : f_X5_readSecondIfAny a (nI i') fk fp ty st ln fs sn p = some (1, nI i', fk, fp, sn) := by
            unfold f_X5_readSecondIfAny
            rw [gN_of hp, if_pos hfs]
          rw [esi]
          simp only [bs, i10, if_false]
          rw [stop_C hL hT (by omega)]
          simp only [bs]
          by_cases h10 : tyT B L i' = 10
          · rw [if_pos h10, if_pos h10]
            simp only [i10, if_false]
            exact ⟨_, rfl, ⟨rfl, rfl, rfl, g2, g3, vu_s, fun _ => g8, fun z => absurd (show 5 < 5 from z) (by omega), hfs, hsn⟩, fun x hx => ⟨f1 5 x hx, hfr x hx, rfl, rfl⟩⟩
          · rw [if_neg h10, if_neg h10]
            simp only [if_true]
            exact ⟨_, rfl, err2 (1, stT n L i') _ rfl rfl rfl g2 g3, fun x hx => ⟨f1 5 x hx, hfr x hx, rfl, rfl⟩⟩
    · -- while
      rw [eK, if_neg (by decide), if_neg (by decide), if_neg (by decide), if_pos (by decide), if_neg (by decide), if_neg (by decide), if_pos (by decide)]
      obtain ⟨q, eq, hq, hfr⟩ := other_C hn hB hL hT (show i + 1 ≤ L.length by omega) hN hE hh fk fp ow ot hp how
      rw [eq]; simp only [bs]
      cases hx : pHap B n L NL (i + 1) (some h) with
      | inl e =>
        rw [hx] at hq
        obtain ⟨g1, g2, g3, g5, g6⟩ := hq
        rw [if_pos g1]
        exact ⟨_, rfl, err e _ rfl g5 g6 g2 g3, fun x hx => ⟨f1 6 x hx, hfr x hx, rfl, rfl⟩⟩
      | inr v =>
        obtain ⟨o, NL', i'⟩ := v
        rw [hx] at hq
        obtain ⟨g1, g2, g3, g5, g6, g7, g8⟩ := hq
        dsimp only at g2 g3 g5 g8
        have hok : i + 1 < L.length ∧ i' = i + 1 + 1 ∧ nmsOk NL' ∧ NL <+: NL' := by
          rcases hap_ok hL.1 hN hx with z | z
          · exact ⟨z.1, z.2.1, z.2.2.1, z.2.2.2.1⟩
          · exact ⟨z.1, z.2.1, z.2.2.1, z.2.2.2.1⟩
        obtain ⟨k1, k2, k3, k5⟩ := hok
        have err2 : ∀ (e : Ft) (y : Int32 × Int32 × (Nat → Int32) × (Nat → Int32) × Int32 × Int32 × Int32 × (Nat → Nat) × (Nat → Int32) × (Nat → Int32) × (Nat → Int32)), y.1 = 0 → y.2.2.2.2.2.1 = nI e.1 → y.2.2.2.2.2.2.1 = nI e.2 → y.2.1 = nI NL'.length → encN y.2.2.1 y.2.2.2.1 NL' → rsC (.inl e) NL p fk y :=
          fun e y g1 g2 g3 g4 g5 => ⟨g1, g2, g3, NL', k5, k3, g4, g5⟩
        rw [if_neg (by rw [g1]; decide), g5, g6, g7, stop_C hL hT (by omega)]
        simp only [bs]
        unfold pStop pb
        dsimp only
        first | rw [if_neg (show ¬ ((6 : Nat) = 5 ∧ tyT B L i' = 2) from fun z => absurd z.1 (by decide))] | rw [if_neg (show ¬ (False ∧ tyT B L i' = 2) from fun z => z.1)]
        dsimp only
        by_cases h10 : tyT B L i' = 10
        · rw [if_pos h10, if_pos h10]
          simp only [i10, if_false]
          exact ⟨_, rfl, ⟨rfl, rfl, rfl, g2, g3, vu_s, fun _ => g8, fun z => absurd (show 6 < 5 from z) (by omega), hfs, hsn⟩, fun x hx => ⟨f1 6 x hx, hfr x hx, rfl, rfl⟩⟩
        · rw [if_neg h10, if_neg h10]
          simp only [if_true]
          exact ⟨_, rfl, err2 (1, stT n L i') _ rfl rfl rfl g2 g3, fun x hx => ⟨f1 6 x hx, hfr x hx, rfl, rfl⟩⟩
  · rw [if_pos (tk13 _ (tyT_lt B L i) (by omega)), ref_C hL hT hi]
    simp only [bs]
    rw [gB_of (Or.inl rfl)]
    have ep : pRest B n L NL h i = .inl (1, stT n L i) := by
      unfold pRest
      rw [if_neg (by omega), if_neg (by omega), if_neg (by omega)]
    rw [ep]
    exact ⟨_, rfl, err (1, stT n L i) _ rfl rfl rfl rfl hE, fun x hx => ⟨f1 _ x hx, rfl, rfl, rfl⟩⟩
