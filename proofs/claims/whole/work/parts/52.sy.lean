/-! the texts, with places; saying, sayings, count -/
def TXC (tt : Nat → Nat) (dr : Nat) (sz : Nat → Int32) (w : Nat → Nat) (ow ot fs sn pc : Nat → Int32) (Hn : Nat) (TX : Nat → List (Sy × Nat)) : Prop :=
  dr < 7 ∧ ∀ t, t < 6 → tt t < 7 ∧ tt t ≠ dr ∧ (∀ t', t' < 6 → tt t = tt t' → t = t') ∧ sz (tt t) = nI (TX t).length ∧ (TX t).length ≤ 12 ∧ ∀ k s, (TX t)[k]? = some s → sOk Hn s.1 ∧ sayX w ow ot fs sn pc (12 * tt t + k) s
def TXR (ma so on ot lo hi bg : Nat → Int32) (Hn : Nat) (TX : Nat → List (Sy × Nat)) : Prop :=
  ∀ t, t < 6 → ma t = nI (TX t).length ∧ (TX t).length ≤ 12 ∧ ∀ k s, (TX t)[k]? = some s → sOk Hn s.1 ∧ sayY so on ot lo hi bg (12 * t + k) s
def Tm (TX : Nat → List (Sy × Nat)) (t : Nat) : List Sy := (TX t).map (fun s => s.1)
theorem Tm_get {TX : Nat → List (Sy × Nat)} {t k : Nat} {s : Sy} (h : (Tm TX t)[k]? = some s) : ∃ p, (TX t)[k]? = some (s, p) := by
  unfold Tm at h
  rw [List.getElem?_map] at h
  cases hx : (TX t)[k]? with
  | none => rw [hx] at h; cases h
  | some x => rw [hx] at h; cases h; exact ⟨x.2, rfl⟩
theorem Tm_len (TX : Nat → List (Sy × Nat)) (t : Nat) : (Tm TX t).length = (TX t).length := by simp [Tm]
theorem TXC_c {tt : Nat → Nat} {dr : Nat} {sz : Nat → Int32} {w : Nat → Nat} {ow ot fs sn pc : Nat → Int32} {Hn : Nat} {TX : Nat → List (Sy × Nat)} (h : TXC tt dr sz w ow ot fs sn pc Hn TX) : TXc tt sz w ow ot fs sn Hn (Tm TX) := by
  intro t ht
  obtain ⟨h1, h2, h3, h4, h5, h6⟩ := h.2 t ht
  refine ⟨h1, by rw [Tm_len]; exact h4, by rw [Tm_len]; exact h5, fun k s hs => ?_⟩
  obtain ⟨p, hp⟩ := Tm_get hs
  exact ⟨(h6 k _ hp).1, (h6 k _ hp).2.1⟩
theorem TXR_r {ma so on ot lo hi bg : Nat → Int32} {Hn : Nat} {TX : Nat → List (Sy × Nat)} (h : TXR ma so on ot lo hi bg Hn TX) : TXr ma so on ot lo hi Hn (Tm TX) := by
  intro t ht
  obtain ⟨h4, h5, h6⟩ := h t ht
  refine ⟨by rw [Tm_len]; exact h4, by rw [Tm_len]; exact h5, fun k s hs => ?_⟩
  obtain ⟨p, hp⟩ := Tm_get hs
  exact ⟨(h6 k _ hp).1, (h6 k _ hp).2.1⟩
theorem teller_C (p : Int32) : (∃ t, t < 6 ∧ p = nI t ∧ f_X11_isTeller p = some 1) ∨ ((∀ t, t < 6 → ¬ p = nI t) ∧ f_X11_isTeller p = some 0) := by
  unfold f_X11_isTeller
  rcases pk_ix p (n := 6) (by omega) with h | h | ⟨j, hj, rfl⟩
  · exact Or.inr ⟨fun k hk e => by rw [e] at h; exact nI_pos (by omega) h, by rw [if_pos h]⟩
  · refine Or.inr ⟨fun k hk e => by rw [e] at h; exact nI_ge hk (by omega) h, ?_⟩
    split
    · rfl
    · exact if_pos h
  · exact Or.inl ⟨j, hj, rfl, by rw [if_neg (nI_pos (by omega))]; exact if_neg (nI_ge (b := 6) hj (by omega))⟩
def sayV (s : Sy × Nat) (w : Nat) : Int32 := if w = 0 then nI s.1.1 else if w = 1 then nI s.1.2.1 else if w = 2 then (if 5 ≤ s.1.1 then nI s.1.2.2.1 else -1) else if w = 3 then oI s.1.2.2.2.1 else if w = 4 then oI s.1.2.2.2.2 else nI s.2
/-- what saying(p1, p2, p3) does: 0 and an answer, or the number of its throw -/
def sayS (TX : Nat → List (Sy × Nat)) (p1 p2 p3 : Int32) (k : Int32) (r : Int32) : Prop :=
  ((∀ t, t < 6 → ¬ p1 = nI t) → k = 1) ∧ ∀ t, t < 6 → p1 = nI t → (((∀ j, j < (TX t).length → ¬ p2 = nI j) ∨ (∀ w, w < 6 → ¬ p3 = nI w)) → k = 2) ∧ ∀ j s w, (TX t)[j]? = some s → p2 = nI j → w < 6 → p3 = nI w → k = 0 ∧ r = sayV s w
theorem sayS_one {TX : Nat → List (Sy × Nat)} (hl : ∀ t, t < 6 → (TX t).length ≤ 12) {p1 p2 p3 k k' r r' : Int32} (h : sayS TX p1 p2 p3 k r) (h' : sayS TX p1 p2 p3 k' r') : k = k' ∧ (k = 0 → r = r') := by
  rcases teller_C p1 with ⟨t, ht, e, -⟩ | ⟨hno, -⟩
  · by_cases hb : (∀ j, j < (TX t).length → ¬ p2 = nI j) ∨ (∀ w, w < 6 → ¬ p3 = nI w)
    · have e1 := (h.2 t ht e).1 hb
      have e2 := (h'.2 t ht e).1 hb
      exact ⟨by rw [e1, e2], fun z => by rw [e1] at z; exact absurd z (by decide)⟩
    · have h1 : ∃ j, j < (TX t).length ∧ p2 = nI j := Classical.byContradiction (fun z => hb (Or.inl (fun j hj e => z ⟨j, hj, e⟩)))
      have h2 : ∃ w, w < 6 ∧ p3 = nI w := Classical.byContradiction (fun z => hb (Or.inr (fun j hj e => z ⟨j, hj, e⟩)))
      obtain ⟨j, hj, ej⟩ := h1
      obtain ⟨w, hw, ew⟩ := h2
      obtain ⟨a1, a2⟩ := (h.2 t ht e).2 j _ w (List.getElem?_eq_getElem hj) ej hw ew
      obtain ⟨b1, b2⟩ := (h'.2 t ht e).2 j _ w (List.getElem?_eq_getElem hj) ej hw ew
      exact ⟨by rw [a1, b1], fun _ => by rw [a2, b2]⟩
  · have e1 := h.1 hno
    have e2 := h'.1 hno
    exact ⟨by rw [e1, e2], fun z => by rw [e1] at z; exact absurd z (by decide)⟩
/-- a throwing method's outcome as the wrapper's numbers -/
def kOf {α β : Type} (f : α → Int32) (g : β → Nat) (k1 k2 : Int32) (q : α ⊕ β) : Int32 × Int32 := match q with
  | .inl r => (0, f r)
  | .inr e => (if g e = 1 then k1 else k2, 0)
theorem tkK7 : ∀ k, k < 7 → tkK k = nI k := by decide
theorem saying_C {tt : Nat → Nat} {dr : Nat} {sz : Nat → Int32} {w : Nat → Nat} {ow ot fs sn pc : Nat → Int32} {Hn : Nat} {TX : Nat → List (Sy × Nat)} (h : TXC tt dr sz w ow ot fs sn pc Hn TX) (p1 p2 p3 : Int32) :
    ∃ q, f_X11_saying tt sz w ow ot fs sn pc p1 p2 p3 = some q ∧ sayS TX p1 p2 p3 (kOf id id 1 2 q).1 (kOf id id 1 2 q).2 := by
  unfold f_X11_saying
  rcases teller_C p1 with ⟨t, ht, rfl, e⟩ | ⟨hno, e⟩
  · rw [e]; simp only [bs]
    obtain ⟨h1, h2, h3, h4, h5, h6⟩ := h.2 t ht
    have ntl : ¬ ∀ t', t' < 6 → ¬ nI t = nI t' := fun z => z t ht rfl
    have inj : ∀ t', t' < 6 → nI t = nI t' → t' = t := fun t' ht' e => ((nI_eq (by omega) (by omega)).mp e).symm
    rw [if_neg (show ¬ (1 : Int32) = 0 by decide)]
    simp only [gIn_of (vp_in_nI (show t < 6 by omega) (by omega)), nI_clamp (show t < 2 ^ 31 by omega), gN_of h1]
    unfold f_X8_has
    rw [gN_of h1, h4]
    have bad2 : ∀ q : Int32 ⊕ Nat, q = .inr 2 → ((∀ j, j < (TX t).length → ¬ p2 = nI j) ∨ (∀ w, w < 6 → ¬ p3 = nI w)) → sayS TX (nI t) p2 p3 (kOf id id 1 2 q).1 (kOf id id 1 2 q).2 := by
      intro q hq hb
      subst hq
      refine ⟨fun z => absurd z ntl, fun t' ht' e' => ⟨fun _ => rfl, fun j s w hs ej hw ew => ?_⟩⟩
      rw [inj t' ht' e'] at hs
      rcases hb with z | z
      · exact absurd ej (z j (List.getElem?_eq_some_iff.mp hs).1)
      · exact absurd ew (z w hw)
    rcases pk_ix p2 (n := (TX t).length) (by omega) with z | z | ⟨j, hj, rfl⟩
    · rw [if_pos z]; simp only [bs]; rw [if_pos trivial]
      exact ⟨_, rfl, bad2 _ rfl (Or.inl (fun j hj e => by rw [e] at z; exact nI_pos (by omega) z))⟩
    · have hb : ∀ j, j < (TX t).length → ¬ p2 = nI j := fun j hj e => by rw [e] at z; exact nI_ge hj (by omega) z
      by_cases z0 : p2 < 0
      · rw [if_pos z0]; simp only [bs]; rw [if_pos trivial]
        exact ⟨_, rfl, bad2 _ rfl (Or.inl hb)⟩
      · rw [if_neg z0, if_pos z]; simp only [bs]; rw [if_pos trivial]
        exact ⟨_, rfl, bad2 _ rfl (Or.inl hb)⟩
    · rw [if_neg (nI_pos (by omega)), if_neg (nI_ge hj (by omega))]; simp only [bs]
      rw [if_neg (show ¬ (1 : Int32) = 0 by decide)]
      obtain ⟨s, hs⟩ : ∃ s, (TX t)[j]? = some s := ⟨_, List.getElem?_eq_getElem hj⟩
      obtain ⟨k1, ⟨c1, c2, c3, c4, c5⟩, c6, c7⟩ := h6 j s hs
      have hk7 := k1.1
      simp only [gIn_of (vp_in_nI (show j < 12 by omega) (by omega)), nI_clamp (show j < 2 ^ 31 by omega), gN_of (show 12 * tt t + j < 84 by omega), c1, c2, c4, c5, c7, gN_of (show s.1.1 < 13 by omega), tkK7 _ hk7]
      have good : ∀ w, w < 6 → p3 = nI w → ∀ r, r = sayV s w → sayS TX (nI t) (nI j) p3 0 r := by
        intro w hw ew r hr
        refine ⟨fun z => absurd z ntl, fun t' ht' e' => ?_⟩
        obtain rfl := inj t' ht' e'
        refine ⟨fun z => ?_, fun j' s' w' hs' ej' hw' ew' => ?_⟩
        · rcases z with z | z
          · exact absurd rfl (z j hj)
          · exact absurd ew (z w hw)
        · have hj' := (List.getElem?_eq_some_iff.mp hs').1
          obtain rfl : j = j' := (nI_eq (by omega) (by omega)).mp ej'
          rw [hs] at hs'; cases hs'
          obtain rfl : w = w' := (nI_eq (by omega) (by omega)).mp (ew.symm.trans ew')
          exact ⟨rfl, hr⟩
      by_cases d0 : p3 = 0
      · rw [if_pos d0]; exact ⟨_, rfl, good 0 (by omega) d0 _ rfl⟩
      · rw [if_neg d0]
        by_cases d1 : p3 = 1
        · rw [if_pos d1]; exact ⟨_, rfl, good 1 (by omega) d1 _ rfl⟩
        · rw [if_neg d1]
          by_cases d2 : p3 = 2
          · rw [if_pos d2]
            refine ⟨_, rfl, good 2 (by omega) d2 _ ?_⟩
            show ot (12 * tt t + j) = if 5 ≤ s.1.1 then nI s.1.2.2.1 else -1
            by_cases h5k : 5 ≤ s.1.1
            · rw [if_pos h5k]; exact c3 h5k
            · rw [if_neg h5k]; exact c6 (by omega)
          · rw [if_neg d2]
            by_cases d3 : p3 = 3
            · rw [if_pos d3]; exact ⟨_, rfl, good 3 (by omega) d3 _ rfl⟩
            · rw [if_neg d3]
              by_cases d4 : p3 = 4
              · rw [if_pos d4]; exact ⟨_, rfl, good 4 (by omega) d4 _ rfl⟩
              · rw [if_neg d4]
                by_cases d5 : p3 = 5
                · rw [if_pos d5]; exact ⟨_, rfl, good 5 (by omega) d5 _ rfl⟩
                · rw [if_neg d5]
                  refine ⟨_, rfl, bad2 _ rfl (Or.inr (fun w hw e => ?_))⟩
                  have hc : w = 0 ∨ w = 1 ∨ w = 2 ∨ w = 3 ∨ w = 4 ∨ w = 5 := by omega
                  rcases hc with rfl | rfl | rfl | rfl | rfl | rfl
                  · exact d0 e
                  · exact d1 e
                  · exact d2 e
                  · exact d3 e
                  · exact d4 e
                  · exact d5 e
  · rw [e]; simp only [bs]
    rw [if_pos trivial]
    exact ⟨_, rfl, fun _ => rfl, fun t ht e => absurd e (hno t ht)⟩
theorem sayq_R {ma so on ot lo hi bg : Nat → Int32} {Hn : Nat} {TX : Nat → List (Sy × Nat)} (h : TXR ma so on ot lo hi bg Hn TX) (th p1 p2 p3 : Int32) :
    ∃ q, f_X12_saying th ma so on ot lo hi bg p1 p2 p3 = some q ∧ sayS TX p1 p2 p3 q.2 q.1 := by
  unfold f_X12_saying
  rcases teller_R p1 with ⟨t, ht, rfl, e⟩ | ⟨hno, e⟩
  · rw [e]; simp only [bs]
    obtain ⟨h4, h5, h6⟩ := h t ht
    have ntl : ¬ ∀ t', t' < 6 → ¬ nI t = nI t' := fun z => z t ht rfl
    have inj : ∀ t', t' < 6 → nI t = nI t' → t' = t := fun t' ht' e => ((nI_eq (by omega) (by omega)).mp e).symm
    rw [if_neg (show ¬ (1 : Int32) = 0 by decide)]
    unfold f_X12_isSaying f_X12_saying_b31 f_X12_refuse
    rw [gIn_of (vp_in_nI (show t < 7 by omega) (by omega)), nI_clamp (show t < 2 ^ 31 by omega), h4]
    simp only [bs]
    have bad2 : ∀ r : Int32, ((∀ j, j < (TX t).length → ¬ p2 = nI j) ∨ (∀ w, w < 6 → ¬ p3 = nI w)) → sayS TX (nI t) p2 p3 2 r := by
      intro r hb
      refine ⟨fun z => absurd z ntl, fun t' ht' e' => ⟨fun _ => rfl, fun j s w hs ej hw ew => ?_⟩⟩
      rw [inj t' ht' e'] at hs
      rcases hb with z | z
      · exact absurd ej (z j (List.getElem?_eq_some_iff.mp hs).1)
      · exact absurd ew (z w hw)
    rcases pk_ix p2 (n := (TX t).length) (by omega) with z | z | ⟨j, hj, rfl⟩
    · rw [if_pos z]; simp only [bs]; rw [if_pos trivial]
      exact ⟨_, rfl, bad2 _ (Or.inl (fun j hj e => by rw [e] at z; exact nI_pos (by omega) z))⟩
    · have hb : ∀ j, j < (TX t).length → ¬ p2 = nI j := fun j hj e => by rw [e] at z; exact nI_ge hj (by omega) z
      by_cases z0 : p2 < 0
      · rw [if_pos z0]; simp only [bs]; rw [if_pos trivial]
        exact ⟨_, rfl, bad2 _ (Or.inl hb)⟩
      · rw [if_neg z0, if_pos z]; simp only [bs]; rw [if_pos trivial]
        exact ⟨_, rfl, bad2 _ (Or.inl hb)⟩
    · rw [if_neg (nI_pos (by omega)), if_neg (nI_ge hj (by omega))]; simp only [bs]
      rw [if_neg (show ¬ (1 : Int32) = 0 by decide)]
      obtain ⟨s, hs⟩ : ∃ s, (TX t)[j]? = some s := ⟨_, List.getElem?_eq_getElem hj⟩
      obtain ⟨k1, ⟨c1, c2, c3, c4, c5⟩, c6, c7⟩ := h6 j s hs
      have esl : (12 : Int32) * nI t + nI j = nI (12 * t + j) := by rw [show (12 : Int32) = nI 12 from rfl, pk_mul, nI_add]
      simp only [esl, gIn_of (vp_in_nI (show 12 * t + j < 84 by omega) (by omega)), nI_clamp (show 12 * t + j < 2 ^ 31 by omega), c1, c2, c4, c5, c7]
      have good : ∀ w, w < 6 → p3 = nI w → ∀ r, r = sayV s w → sayS TX (nI t) (nI j) p3 0 r := by
        intro w hw ew r hr
        refine ⟨fun z => absurd z ntl, fun t' ht' e' => ?_⟩
        obtain rfl := inj t' ht' e'
        refine ⟨fun z => ?_, fun j' s' w' hs' ej' hw' ew' => ?_⟩
        · rcases z with z | z
          · exact absurd rfl (z j hj)
          · exact absurd ew (z w hw)
        · have hj' := (List.getElem?_eq_some_iff.mp hs').1
          obtain rfl : j = j' := (nI_eq (by omega) (by omega)).mp ej'
          rw [hs] at hs'; cases hs'
          obtain rfl : w = w' := (nI_eq (by omega) (by omega)).mp (ew.symm.trans ew')
          exact ⟨rfl, hr⟩
      rcases pk_ix p3 (n := 6) (by omega) with z | z | ⟨w, hw, rfl⟩
      · rw [if_pos z]
        exact ⟨_, rfl, bad2 _ (Or.inr (fun w hw e => by rw [e] at z; exact nI_pos (by omega) z))⟩
      · have hb : ∀ w, w < 6 → ¬ p3 = nI w := fun w hw e => by rw [e] at z; exact nI_ge hw (by omega) z
        by_cases z0 : p3 < 0
        · rw [if_pos z0]; exact ⟨_, rfl, bad2 _ (Or.inr hb)⟩
        · have z5 : ¬ p3 ≤ 5 := fun y => by
            rw [i_le] at y z
            rw [nI_toInt (by omega)] at z
            have : (5 : Int32).toInt = 5 := by decide
            omega
          rw [if_neg z0, if_neg z5]; exact ⟨_, rfl, bad2 _ (Or.inr hb)⟩
      · rw [if_neg (nI_pos (by omega)), if_pos (show nI w ≤ (5 : Int32) from nI_le (a := w) (b := 5) (by omega) (by omega))]
        have hc : w = 0 ∨ w = 1 ∨ w = 2 ∨ w = 3 ∨ w = 4 ∨ w = 5 := by omega
        rcases hc with rfl | rfl | rfl | rfl | rfl | rfl
        · exact ⟨_, rfl, good 0 (by omega) rfl _ rfl⟩
        · exact ⟨_, rfl, good 1 (by omega) rfl _ rfl⟩
        · refine ⟨_, rfl, good 2 (by omega) rfl _ ?_⟩
          show ot (12 * t + j) = if 5 ≤ s.1.1 then nI s.1.2.2.1 else -1
          by_cases h5k : 5 ≤ s.1.1
          · rw [if_pos h5k]; exact c3 h5k
          · rw [if_neg h5k]; exact c6 (by omega)
        · exact ⟨_, rfl, good 3 (by omega) rfl _ rfl⟩
        · exact ⟨_, rfl, good 4 (by omega) rfl _ rfl⟩
        · exact ⟨_, rfl, good 5 (by omega) rfl _ rfl⟩
  · rw [e]; simp only [bs]
    rw [if_pos trivial]
    unfold f_X12_refuse
    exact ⟨_, rfl, fun _ => rfl, fun t ht e => absurd e (hno t ht)⟩
