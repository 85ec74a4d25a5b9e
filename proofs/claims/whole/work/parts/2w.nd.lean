/-! needless -/
theorem FS_sub {Hn : Nat} {T : Nat → List Sy} {hear : Nat → Bool} {keep : Nat → Nat → Bool} {x : Nat → Int} (h : FS (CE Hn T hear (fun _ _ => true)) x) : FS (CE Hn T hear keep) x := by
  obtain ⟨h1, h2⟩ := FS_app.mp h
  exact FS_app.mpr ⟨h1, (FS_tellK 6).mpr (fun t k s ht hh hs _ => (FS_tellK 6).mp h2 t k s ht hh hs rfl)⟩
/-- all but one -/
def OE (Hn : Nat) (T : Nat → List Sy) (u : Int32) (t k : Nat) : List Lk := CE Hn T (hearI u) (keepI (upd (fun _ => 0) (12 * t + k) 1))
def folS (Hn : Nat) (T : Nat → List Sy) (u : Int32) (t k : Nat) (s : Sy) : Prop := ∀ x, FS (OE Hn T u t k) x → FS (lks s) x
def ndS (Hn : Nat) (T : Nat → List Sy) (u : Int32) (t : Nat) (p r : Int32) : Prop :=
  (∀ k s, k < 100 → p = nI k → (T t)[k]? = some s → hearI u t = true → Feas Hn T u → (r = 0 ∨ r = 1) ∧ (r = 1 ↔ folS Hn T u t k s)) ∧ ((p < 0 ∨ nI (T t).length ≤ p ∨ ¬ hearI u t = true ∨ ¬ Feas Hn T u) → r = -1)
theorem ndS_one {Hn : Nat} {T : Nat → List Sy} (hT : TOk Hn T) {u p r r' : Int32} {t : Nat} (ht : t < 6) (h : ndS Hn T u t p r) (h' : ndS Hn T u t p r') : r = r' := by
  by_cases hb : p < 0 ∨ nI (T t).length ≤ p ∨ ¬ hearI u t = true ∨ ¬ Feas Hn T u
  · rw [h.2 hb, h'.2 hb]
  · have hl := (hT t ht).1
    have h1 : hearI u t = true := Classical.byContradiction (fun z => hb (Or.inr (Or.inr (Or.inl z))))
    have h2 : Feas Hn T u := Classical.byContradiction (fun z => hb (Or.inr (Or.inr (Or.inr z))))
    rcases pk_ix p (n := (T t).length) (by omega) with z | z | ⟨j, hj, e⟩
    · exact absurd (Or.inl z) hb
    · exact absurd (Or.inr (Or.inl z)) hb
    · obtain ⟨a1, a2⟩ := h.1 j _ (by omega) e (List.getElem?_eq_getElem hj) h1 h2
      obtain ⟨b1, b2⟩ := h'.1 j _ (by omega) e (List.getElem?_eq_getElem hj) h1 h2
      by_cases hf : folS Hn T u t j (T t)[j]
      · rw [a2.mpr hf, b2.mpr hf]
      · rw [a1.resolve_right (fun z => hf (a2.mp z)), b1.resolve_right (fun z => hf (b2.mp z))]
theorem lks_eq {E : List Lk} {x : Nat → Int} : FS E x ↔ ∀ (i : Nat) (e : Lk), E[i]? = some e → x e.1 + e.2.2 ≤ x e.2.1 := by
  constructor
  · intro h i e he
    exact h e (List.mem_of_getElem? he)
  · intro h e he
    obtain ⟨i, hi⟩ := List.getElem?_of_mem he
    exact h i e hi
theorem follows_C {Hn : Nat} (hH : Hn ≤ 20) {tt : Nat → Nat} {sz : Nat → Int32} {w : Nat → Nat} {ow ot fs sn : Nat → Int32} {T : Nat → List Sy} (hT : TXc tt sz w ow ot fs sn Hn T) (u mn ms cs : Int32) (ts hs gs l0 ct ch cg lo : Nat → Int32) (hlo : ∀ k, k < 72 → lo k = 0) (hf : Feas Hn T u) {t k : Nat} {s : Sy} (ht : t < 6) (hs' : (T t)[k]? = some s) :
    ∃ q, f_X1_followsFromOthers (nI Hn) tt u mn ms ts hs gs l0 cs ct ch cg lo sz w ow ot fs sn (nI t) (nI k) = some q ∧ (q.1 = 0 ∨ q.1 = 1) ∧ (q.1 = 1 ↔ folS Hn T u t k s) ∧ ∀ j, j < 72 → q.2.2.2.2.2.2.2.2.2.2.2 j = 0 := by
  obtain ⟨g1, g2, g3, g4⟩ := hT t ht
  obtain ⟨s1, s2⟩ := g4 k s hs'
  have hk := (List.getElem?_eq_some_iff.mp hs').1
  have esl : f_X1_slot (nI t) (nI k) = some (nI (12 * t + k)) := by
    unfold f_X1_slot
    rw [show (12 : Int32) = nI 12 from rfl, pk_mul, nI_add, Nat.mul_comm]
  have en1 : vp_nar .boolean (1 : Int32) = 1 := rfl
  have en0 : vp_nar .boolean (0 : Int32) = 0 := rfl
  obtain ⟨q0, e0, n0, d0⟩ := gather_C hH hT mn ms ts hs gs (upd lo (12 * t + k) 1) u
  have hag : ag72 (upd lo (12 * t + k) 1) (upd (fun _ => 0) (12 * t + k) 1) := ag_upd hlo _ _
  have d0' : encL q0.2.1 q0.2.2.1 q0.2.2.2.1 q0.2.2.2.2 (OE Hn T u t k) := by
    unfold OE
    rw [← CE_ag (TXc_ok hT) hag]; exact d0
  have hexO : ∃ x, FS (OE Hn T u t k) x := by obtain ⟨x, hx⟩ := hf; exact ⟨x, FS_sub hx⟩
  obtain ⟨q1, e1, d1⟩ := put19 (m := 0) (ts := ct) (hs := ch) (gs := cg) (E := []) ⟨rfl, fun i e he => by simp at he⟩ (by simp) (p := 12 * tt t + k) (by omega) s1 s2
  rw [List.nil_append] at d1
  have hrl := rng_lks s1
  have hll := lks_len s
  have hlo2 : ∀ j, j < 72 → upd (upd lo (12 * t + k) 1) (12 * t + k) 0 j = 0 := by
    intro j hj
    by_cases e : j = 12 * t + k
    · subst e; rw [upd_s]
    · rw [upd_n e, upd_n e]; exact hlo j hj
  obtain ⟨t1, ht1, hq1⟩ := lp_rule (body := f_X1_followsFromOthers_l58 (nI Hn) tt u q0.1 q0.2.1 q0.2.2.1 q0.2.2.2.1 q0.2.2.2.2 q1.1 q1.2.1 q1.2.2.1 q1.2.2.2 (upd (upd lo (12 * t + k) 1) (12 * t + k) 0) sz w ow ot fs sn) (fun sg => ∃ i : Nat, i ≤ (lks s).length ∧ sg.1 = nI i ∧ ∀ j e, j < i → (lks s)[j]? = some e → ∀ x, FS (OE Hn T u t k) x → x e.1 + e.2.2 ≤ x e.2.1) (fun sg => (lks s).length - sg.1.toNatClampNeg) (fun r => Sum.elim (fun _ => folS Hn T u t k s) (fun q => q.1 = 0 ∧ ¬ folS Hn T u t k s ∧ ∀ j, j < 72 → q.2.2.2.2.2.2.2.2.2.2.2 j = 0) r)
    (by
      intro sg hinv
      obtain ⟨i, hi, ei, hall⟩ := hinv
      unfold f_X1_followsFromOthers_l58
      rw [ei, d1.1]
      by_cases hlt : i < (lks s).length
      · rw [if_neg (nI_ge hlt (by omega))]
        have mes : (lks s).length - (nI i + 1).toNatClampNeg < (lks s).length - i := by rw [nI_1, nI_clamp (by omega)]; omega
        obtain ⟨e, he⟩ : ∃ e, (lks s)[i]? = some e := ⟨_, List.getElem?_eq_getElem hlt⟩
        obtain ⟨h1, h2, h3⟩ := d1.2 i e he
        obtain ⟨r1, r2, r3, r4⟩ := hrl e (List.mem_of_getElem? he)
        simp only [nI_clamp (show i < 2 ^ 31 by omega), gIn_of (vp_in_nI (show i < 4 by omega) (by omega)), h1, h2]
        obtain ⟨q2, e2, b1, b2, b3⟩ := meas_C hH (TXc_ok hT) d0' sg.2 e.1 r1
        obtain ⟨b4, b5⟩ := b3 hexO
        obtain ⟨m1, m2⟩ := b5 e.2.1 r2
        rw [n0, e2]; simp only [bs]
        simp only [gIn_of (vp_in_nI (show e.2.1 < 41 by omega) (by omega)), nI_clamp (show e.2.1 < 2 ^ 31 by omega)]
        by_cases hc : q1.2.2.2 i ≤ q2.2 e.2.1
        · rw [if_pos hc]
          rw [i_le, h3] at hc
          refine Or.inl ⟨_, rfl, ⟨i + 1, hlt, by rw [← nI_1], fun j e' hj he' x hx => ?_⟩, mes⟩
          by_cases hji : j < i
          · exact hall j e' hji he' x hx
          · obtain rfl : j = i := by omega
            rw [he] at he'; cases he'
            have := m2 x hx
            omega
        · rw [if_neg hc]
          rw [i_le, h3] at hc
          refine Or.inr ⟨_, rfl, rfl, fun hfo => ?_, hlo2⟩
          obtain ⟨x, hx, ex⟩ := m1
          have := lks_eq.mp (hfo x hx) i e he
          omega
      · obtain rfl : i = (lks s).length := by omega
        rw [if_pos (nI_le (Nat.le_refl _) (by omega))]
        refine Or.inr ⟨_, rfl, ?_⟩
        show folS Hn T u t k s
        exact fun x hx => lks_eq.mpr (fun j e he => hall j e (List.getElem?_eq_some_iff.mp he).1 he x hx))
    gFU (0, l0) ⟨0, Nat.zero_le _, nI_0.symm, fun j e hj => absurd hj (Nat.not_lt_zero j)⟩ (by show (lks s).length - (0 : Int32).toNatClampNeg < 100000; omega)
  unfold f_X1_followsFromOthers
  simp only [esl, bs, gIn_of (vp_in_nI (show 12 * t + k < 72 by omega) (by omega)), gIn_of (vp_in_nI (show t < 6 by omega) (by omega)), gIn_of (vp_in_nI (show k < 12 by omega) (by omega)), nI_clamp (show 12 * t + k < 2 ^ 31 by omega), nI_clamp (show t < 2 ^ 31 by omega), nI_clamp (show k < 2 ^ 31 by omega), en1, en0]
  rw [e0]; simp only [bs]
  rw [gN_of g1, gN_of (by omega), e1]; simp only [bs]
  rw [ht1]; simp only [bs]
  cases t1 with
  | inl a => exact ⟨_, rfl, Or.inr rfl, ⟨fun _ => hq1, fun _ => rfl⟩, hlo2⟩
  | inr r =>
    obtain ⟨z1, z2, z3⟩ := hq1
    refine ⟨_, rfl, Or.inl z1, ⟨fun e => ?_, fun e => absurd e z2⟩, z3⟩
    have e : r.1 = 1 := e
    rw [z1] at e; exact absurd e (by decide)
theorem agree_L {Hn : Nat} (hH : Hn ≤ 20) {ma so on ot lo hi : Nat → Int32} {T : Nat → List Sy} (hT : TXr ma so on ot lo hi Hn T) (th mb : Int32) (be ah mo le fr : Nat → Int32) (u : Int32) :
    ∃ q, f_X12_agree th (nI Hn) u mb ma so on ot lo hi be ah mo le fr = some q ∧ (q.1 = 0 ∨ q.1 = 1) ∧ (q.1 = 1 ↔ Feas Hn T u) ∧ q.2.1 = 0 ∧ ∀ k, k < 72 → q.2.2.2.2.2.2.1 k = 0 := by
  obtain ⟨q0, e0, h0⟩ := hearAll_R le
  obtain ⟨q1, e1, h1, h2, -⟩ := agreed_R hH hT mb be ah mo q0 fr u
  have hz : ∀ k, k < 72 → q0 k = 0 := fun k hk => h0 k (by omega)
  rw [CE_all (TXr_ok hT) hz] at h2
  unfold f_X12_agree
  rw [e0]; simp only [bs]; rw [e1]; simp only [bs]
  by_cases hz1 : q1.1 = 0
  · rw [if_pos hz1]
    refine ⟨_, rfl, Or.inl rfl, ⟨fun h => absurd h (show ¬ (0 : Int32) = 1 by decide), fun h => absurd (hz1.symm.trans (h2.mpr h)) (by decide)⟩, rfl, hz⟩
  · rw [if_neg hz1]
    exact ⟨_, rfl, Or.inr rfl, ⟨fun _ => h2.mp (h1.resolve_left hz1), fun _ => rfl⟩, rfl, hz⟩
theorem encB_pre {m : Int32} {be ah mo : Nat → Int32} {A B : List Lk} (h : encB m be ah mo (A ++ B)) : encB (nI A.length) be ah mo A := ⟨rfl, fun i e he => h.2 i e (by rw [List.getElem?_append_left (List.getElem?_eq_some_iff.mp he).1]; exact he)⟩
theorem teller_R (p : Int32) : (∃ t, t < 6 ∧ p = nI t ∧ f_X12_isTeller p = some 1) ∨ ((∀ t, t < 6 → ¬ p = nI t) ∧ f_X12_isTeller p = some 0) := by
  unfold f_X12_isTeller
  rcases pk_ix p (n := 6) (by omega) with h | h | ⟨j, hj, rfl⟩
  · exact Or.inr ⟨fun k hk e => by rw [e] at h; exact nI_pos (by omega) h, by rw [if_pos h]⟩
  · refine Or.inr ⟨fun k hk e => by rw [e] at h; exact nI_ge hk (by omega) h, ?_⟩
    split
    · rfl
    · exact if_pos h
  · exact Or.inl ⟨j, hj, rfl, by rw [if_neg (nI_pos (by omega))]; exact if_neg (nI_ge (b := 6) hj (by omega))⟩
theorem needless_R {Hn : Nat} (hH : Hn ≤ 20) {ma so on ot lo hi : Nat → Int32} {T : Nat → List Sy} (hT : TXr ma so on ot lo hi Hn T) (th u mb : Int32) (be ah mo le fr : Nat → Int32) (p1 p2 : Int32) :
    ∃ q, f_X12_needless th (nI Hn) u mb ma so on ot lo hi be ah mo le fr p1 p2 = some q ∧ (∀ t, t < 6 → p1 = nI t → ndS Hn T u t p2 q.1 ∧ q.2.1 = 0) ∧ ((∀ t, t < 6 → ¬ p1 = nI t) → q.2.1 = 1) := by
  unfold f_X12_needless
  rcases teller_R p1 with ⟨t, ht, rfl, et⟩ | ⟨hno, et⟩
  · have inj : ∀ t', t' < 6 → nI t = nI t' → t' = t := fun t' h e => ((nI_eq (by omega) (by omega)).mp e).symm
    have fin : ∀ (r : Int32 × Int32 × Int32 × (Nat → Int32) × (Nat → Int32) × (Nat → Int32) × (Nat → Int32) × (Nat → Int32)), ndS Hn T u t p2 r.1 ∧ r.2.1 = 0 → (∀ t', t' < 6 → nI t = nI t' → ndS Hn T u t' p2 r.1 ∧ r.2.1 = 0) ∧ ((∀ t', t' < 6 → ¬ nI t = nI t') → r.2.1 = 1) :=
      fun r h => ⟨fun t' h' e => by rw [inj t' h' e]; exact h, fun z => absurd rfl (z t ht)⟩
    rw [et]; simp only [bs]
    rw [if_neg (show ¬ (1 : Int32) = 0 by decide)]
    obtain ⟨g1, g2, g3⟩ := hT t ht
    unfold f_X12_isSaying
    rw [gIn_of (vp_in_nI (show t < 7 by omega) (by omega)), nI_clamp (show t < 2 ^ 31 by omega), g1]
    rcases pk_ix p2 (n := (T t).length) (by omega) with z | z | ⟨k, hk, rfl⟩
    · rw [if_pos z]; simp only [bs]; rw [if_pos trivial]
      exact ⟨_, rfl, fin _ ⟨⟨fun k s hk e _ _ _ => absurd z (by rw [e]; exact nI_pos (by omega)), fun _ => rfl⟩, rfl⟩⟩
    · have hbad : ndS Hn T u t p2 (-1) := ⟨fun k s hk e hs _ _ => absurd z (by rw [e]; exact nI_ge (List.getElem?_eq_some_iff.mp hs).1 (by omega)), fun _ => rfl⟩
      by_cases z0 : p2 < 0
      · rw [if_pos z0]; simp only [bs]; rw [if_pos trivial]
        exact ⟨_, rfl, fin _ ⟨hbad, rfl⟩⟩
      · rw [if_neg z0, if_pos z]; simp only [bs]; rw [if_pos trivial]
        exact ⟨_, rfl, fin _ ⟨hbad, rfl⟩⟩
    · rw [if_neg (nI_pos (by omega)), if_neg (nI_ge hk (by omega))]; simp only [bs]
      rw [if_neg (show ¬ (1 : Int32) = 0 by decide)]
      obtain ⟨s, hs⟩ : ∃ s, (T t)[k]? = some s := ⟨_, List.getElem?_eq_getElem hk⟩
      obtain ⟨s1, s2⟩ := g3 k s hs
      by_cases hh0 : ((u >>> (nI t &&& 31)) &&& 1) = 0
      · rw [if_pos hh0]
        have h9 : ¬ hearI u t = true := fun z => absurd (hh0.symm.trans (of_decide_eq_true z)) (by decide)
        exact ⟨_, rfl, fin _ ⟨⟨fun k s _ _ _ z _ => absurd z h9, fun _ => rfl⟩, rfl⟩⟩
      · rw [if_neg hh0]
        have h9 : hearI u t = true := decide_eq_true ((bit01 u t).resolve_left hh0)
        obtain ⟨q, eq, b1, b2, b3, b4⟩ := agree_L hH hT 0 mb be ah mo le fr u
        rw [eq]; simp only [bs]
        by_cases hz : q.1 = 0
        · rw [if_pos hz]
          have hnf : ¬ Feas Hn T u := fun hf => absurd (hz.symm.trans (b2.mpr hf)) (by decide)
          exact ⟨_, rfl, fin _ ⟨⟨fun k s _ _ _ _ z => absurd z hnf, fun _ => rfl⟩, b3⟩⟩
        · rw [if_neg hz]
          have hf : Feas Hn T u := b2.mp (b1.resolve_left hz)
          have esl : (12 : Int32) * nI t + nI k = nI (12 * t + k) := by rw [show (12 : Int32) = nI 12 from rfl, pk_mul, nI_add]
          have en1 : vp_nar .boolean (1 : Int32) = 1 := rfl
          rw [esl, gIn_of (vp_in_nI (show 12 * t + k < 84 by omega) (by omega)), nI_clamp (show 12 * t + k < 2 ^ 31 by omega), en1]
          have hag : ag72 (upd q.2.2.2.2.2.2.1 (12 * t + k) 1) (upd (fun _ => 0) (12 * t + k) 1) := ag_upd b4 _ _
          obtain ⟨q0, e0, d0⟩ := gather_R hH hT q.2.2.1 q.2.2.2.1 q.2.2.2.2.1 q.2.2.2.2.2.1 (upd q.2.2.2.2.2.2.1 (12 * t + k) 1) u
          rw [e0]; simp only [bs]
          have hlen := len_BE hH (TXr_ok hT) (hear := hearI u) (keep := keepI (upd q.2.2.2.2.2.2.1 (12 * t + k) 1))
          have hbl := bds_len s
          obtain ⟨q1, e1, d1⟩ := say_R d0 (by unfold BE at hlen; omega) (p := 12 * t + k) (by omega) s1 s2
          rw [e1]; simp only [bs]
          have dB : encB q0.1 q1.2.1 q1.2.2.1 q1.2.2.2 (BE Hn T (hearI u) (keepI (upd q.2.2.2.2.2.2.1 (12 * t + k) 1))) := by
            rw [d0.1]; exact encB_pre d1
          have eOE : CE Hn T (hearI u) (keepI (upd q.2.2.2.2.2.2.1 (12 * t + k) 1)) = OE Hn T u t k := CE_ag (TXr_ok hT) hag
          have hexO : ∃ x, FS (CE Hn T (hearI u) (keepI (upd q.2.2.2.2.2.2.1 (12 * t + k) 1))) x := by obtain ⟨x, hx⟩ := hf; exact ⟨x, FS_sub hx⟩
          have hrb := rng_bds s1
          have hone : folS Hn T u t k s ↔ ∀ x, FS (OE Hn T u t k) x → FS (bds s) (fun v => -x v) := by
            have h2 : ∀ x, FS (OE Hn T u t k) x → (FS (bds s) (fun v => -x v) ↔ FS (lks s) x) := by
              intro x hx
              have hb := (FS_baseK Hn).mp (base_CE hx) s.2.1 s1.2.1
              exact FS_one s1 hb.2.1
            exact ⟨fun h x hx => (h2 x hx).mpr (h x hx), fun h x hx => (h2 x hx).mp (h x hx)⟩
          have hN : (BE Hn T (hearI u) (keepI (upd q.2.2.2.2.2.2.1 (12 * t + k) 1))).length = (baseB Hn ++ tellK bds T (hearI u) (keepI (upd q.2.2.2.2.2.2.1 (12 * t + k) 1)) 6).length := rfl
          generalize hNd : (BE Hn T (hearI u) (keepI (upd q.2.2.2.2.2.2.1 (12 * t + k) 1))).length = N at hlen hN
          obtain ⟨t1, ht1, hq1⟩ := lp_rule (body := f_X12_needless_l96 q.2.1 (nI Hn) u q0.1 ma so on ot lo hi q1.2.1 q1.2.2.1 q1.2.2.2 (upd q.2.2.2.2.2.2.1 (12 * t + k) 1) q1.1) (fun sg => ∃ i : Nat, i ≤ (bds s).length ∧ sg.1 = nI (N + i) ∧ ∀ j e, j < i → (bds s)[j]? = some e → ∀ x, FS (OE Hn T u t k) x → -x e.1 + e.2.2 ≤ -x e.2.1) (fun sg => N + (bds s).length - sg.1.toNatClampNeg) (fun r => Sum.elim (fun _ => folS Hn T u t k s) (fun p => p.1 = 0 ∧ ¬ folS Hn T u t k s ∧ p.2.1 = q.2.1) r)
            (by
              intro sg hinv
              obtain ⟨i, hi', ei, hall⟩ := hinv
              unfold f_X12_needless_l96
              have em : q1.1 = nI (N + (bds s).length) := by rw [d1.1, List.length_append, ← hN]
              rw [ei, em]
              by_cases hlt : i < (bds s).length
              · rw [if_neg (nI_ge (show N + i < N + (bds s).length by omega) (by omega))]
                have mes : N + (bds s).length - (nI (N + i) + 1).toNatClampNeg < N + (bds s).length - (N + i) := by rw [nI_1, nI_clamp (by omega)]; omega
                obtain ⟨e, he⟩ : ∃ e, (bds s)[i]? = some e := ⟨_, List.getElem?_eq_getElem hlt⟩
                obtain ⟨h1, h2, h3⟩ := d1.2 (N + i) e (by rw [List.getElem?_append_right (by omega), ← hN, Nat.add_sub_cancel_left]; exact he)
                obtain ⟨r1, r2, r3, r4⟩ := hrb e (List.mem_of_getElem? he)
                simp only [nI_clamp (show N + i < 2 ^ 31 by omega), gIn_of (vp_in_nI (show N + i < 400 by omega) (by omega)), h1, h2]
                obtain ⟨r, er, m1, m2⟩ := mostOf_R hH (TXr_ok hT) dB sg.2 hexO (a := e.1) (b := e.2.1) r1 r2
                rw [er]; simp only [bs]
                rw [eOE] at m1 m2
                by_cases hc : r.1 ≤ q1.2.2.2 (N + i)
                · rw [if_pos hc]
                  rw [i_le, h3] at hc
                  refine Or.inl ⟨_, rfl, ⟨i + 1, hlt, by rw [nI_1, Nat.add_assoc], fun j e' hj he' x hx => ?_⟩, mes⟩
                  by_cases hji : j < i
                  · exact hall j e' hji he' x hx
                  · obtain rfl : j = i := by omega
                    rw [he] at he'; cases he'
                    have := m2 x hx
                    omega
                · rw [if_neg hc]
                  rw [i_le, h3] at hc
                  refine Or.inr ⟨_, rfl, rfl, fun hfo => ?_, rfl⟩
                  obtain ⟨x, hx, ex⟩ := m1
                  have h5 := lks_eq.mp (hone.mp hfo x hx) i e he
                  have h5 : -x e.1 + e.2.2 ≤ -x e.2.1 := h5
                  omega
              · obtain rfl : i = (bds s).length := by omega
                rw [if_pos (nI_le (Nat.le_refl _) (by omega))]
                refine Or.inr ⟨_, rfl, ?_⟩
                show folS Hn T u t k s
                exact hone.mpr (fun x hx => lks_eq.mpr (fun j e he => hall j e (List.getElem?_eq_some_iff.mp he).1 he x hx)))
            gFU (q0.1, q.2.2.2.2.2.2.2) ⟨0, Nat.zero_le _, by show q0.1 = _; rw [d0.1, ← hN, Nat.add_zero], fun j e hj => absurd hj (Nat.not_lt_zero j)⟩ (by show N + (bds s).length - q0.1.toNatClampNeg < 100000; omega)
          rw [ht1]; simp only [bs]
          have hinj : ∀ k' s', k' < 100 → nI k = nI k' → (T t)[k']? = some s' → k' = k ∧ s' = s := by
            intro k' s' h' e he
            obtain rfl : k = k' := (nI_eq (by omega) (by omega)).mp e
            rw [hs] at he; cases he
            exact ⟨rfl, rfl⟩
          have hbadn : ∀ (r : Int32), (nI k < 0 ∨ nI (T t).length ≤ nI k ∨ ¬ hearI u t = true ∨ ¬ Feas Hn T u) → r = -1 := by
            intro r z
            rcases z with z | z | z | z
            · exact absurd z (nI_pos (by omega))
            · exact absurd z (nI_ge hk (by omega))
            · exact absurd h9 z
            · exact absurd hf z
          cases t1 with
          | inl a => exact ⟨_, rfl, fin _ ⟨⟨fun k' s' h1 h2 h3 _ _ => by obtain ⟨rfl, rfl⟩ := hinj k' s' h1 h2 h3; exact ⟨Or.inr rfl, fun _ => hq1, fun _ => rfl⟩, hbadn _⟩, b3⟩⟩
          | inr r =>
            obtain ⟨z1, z2, z3⟩ := hq1
            refine ⟨_, rfl, fin _ ⟨⟨fun k' s' h1 h2 h3 _ _ => ?_, hbadn _⟩, ?_⟩⟩
            · obtain ⟨rfl, rfl⟩ := hinj k' s' h1 h2 h3
              refine ⟨Or.inl z1, fun e => ?_, fun e => absurd e z2⟩
              have e : r.1 = 1 := e
              rw [z1] at e; exact absurd e (by decide)
            · show r.2.1 = 0
              rw [z3]; exact b3
  · rw [et]; simp only [bs]
    rw [if_pos trivial]
    unfold f_X12_refuse
    exact ⟨_, rfl, fun t ht e => absurd e (hno t ht), fun _ => rfl⟩
