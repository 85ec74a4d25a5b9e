/-! quarrel and quarrelled -/
def qkI (qk qs : Int32) (qr : Nat → Int32) (Q : List Nat) : Prop := (qk = 0 ∨ qk = 1) ∧ (¬ qk = 0 → encQ qs qr Q)
theorem findQ_C {Hn : Nat} (hH : Hn ≤ 20) {tt : Nat → Nat} {sz : Nat → Int32} {w : Nat → Nat} {ow ot fs sn : Nat → Int32} {T : Nat → List Sy} (hT : TXc tt sz w ow ot fs sn Hn T) (u qs qk mn ms : Int32) (ts hs gs l0 lo qr : Nat → Int32) (hlo : ∀ k, k < 72 → lo k = 0) (hq : qkI qk qs qr (qT Hn T u 6).2) :
    ∃ q, f_X1_findQuarrel (nI Hn) tt u qs qk mn ms ts hs gs l0 lo qr sz w ow ot fs sn = some q ∧ encQ q.1 q.2.2.2.2.2.2.2.2.2 (qT Hn T u 6).2 ∧ q.2.1 = 1 ∧ ∀ k, k < 72 → q.2.2.2.2.2.2.2.2.1 k = 0 := by
  by_cases hz : qk = 0
  · subst hz; exact quar_C hH hT u qs mn ms ts hs gs l0 lo qr hlo
  · unfold f_X1_findQuarrel
    rw [if_neg hz]
    exact ⟨_, rfl, hq.2 hz, hq.1.resolve_left hz, hlo⟩
def quaS (Hn : Nat) (T : Nat → List Sy) (u r : Int32) : Prop := (Feas Hn T u → r = 0) ∧ (¬ Feas Hn T u → r = nI (qT Hn T u 6).2.length)
theorem quaS_one {Hn : Nat} {T : Nat → List Sy} {u r r' : Int32} (h : quaS Hn T u r) (h' : quaS Hn T u r') : r = r' := by
  by_cases hf : Feas Hn T u
  · rw [h.1 hf, h'.1 hf]
  · rw [h.2 hf, h'.2 hf]
theorem quarrel_C {Hn : Nat} (hH : Hn ≤ 20) {tt : Nat → Nat} {sz : Nat → Int32} {w : Nat → Nat} {ow ot fs sn : Nat → Int32} {T : Nat → List Sy} (hT : TXc tt sz w ow ot fs sn Hn T) (u qs wk wy qk mn ms : Int32) (ts hs gs l0 lo qr : Nat → Int32) (hlo : ∀ k, k < 72 → lo k = 0) (hw : wayI wk wy (Feas Hn T u)) (hq : qkI qk qs qr (qT Hn T u 6).2) :
    ∃ q, f_X11_quarrel (nI Hn) tt u qs wk wy qk mn ms ts hs gs l0 lo qr sz w ow ot fs sn = some q ∧ quaS Hn T u q.1 ∧ wayI q.2.2.1 q.2.2.2.1 (Feas Hn T u) ∧ qkI q.2.2.2.2.1 q.2.1 q.2.2.2.2.2.2.2.2.2.2.2.2 (qT Hn T u 6).2 ∧ ∀ k, k < 72 → q.2.2.2.2.2.2.2.2.2.2.2.1 k = 0 := by
  obtain ⟨q, eq, b1, b2, b3, b4⟩ := hasWay_C hH hT wk wy mn ms ts hs gs l0 lo u hlo hw
  have hw2 : wayI q.2.1 q.2.2.1 (Feas Hn T u) := ⟨Or.inr b3, by rw [b4]; exact b1, fun _ => by rw [b4]; exact b2⟩
  unfold f_X11_quarrel
  rw [eq]; simp only [bs]
  by_cases hz : q.1 = 0
  · rw [if_pos hz]
    have hnf : ¬ Feas Hn T u := fun hf => absurd (hz.symm.trans (b2.mpr hf)) (by decide)
    obtain ⟨p, ep, c1, c2, c3⟩ := findQ_C hH hT u qs qk q.2.2.2.1 q.2.2.2.2.1 q.2.2.2.2.2.1 q.2.2.2.2.2.2.1 q.2.2.2.2.2.2.2.1 q.2.2.2.2.2.2.2.2 lo qr hlo hq
    rw [ep]; simp only [bs]
    exact ⟨_, rfl, ⟨fun hf => absurd hf hnf, fun _ => c1.1⟩, hw2, ⟨Or.inr c2, fun _ => c1⟩, c3⟩
  · rw [if_neg hz]
    have hf := b2.mp (b1.resolve_left hz)
    exact ⟨_, rfl, ⟨fun _ => rfl, fun hn => absurd hf hn⟩, hw2, hq, hlo⟩
def quiS (Hn : Nat) (T : Nat → List Sy) (u p r : Int32) : Prop := (Feas Hn T u → r = -1) ∧ (¬ Feas Hn T u → ((p < 0 ∨ nI (qT Hn T u 6).2.length ≤ p) → r = -1) ∧ ∀ (i e : Nat), i < 100 → p = nI i → (qT Hn T u 6).2[i]? = some e → r = nI e)
theorem quiS_one {Hn : Nat} {T : Nat → List Sy} (hT : TOk Hn T) {u p r r' : Int32} (h : quiS Hn T u p r) (h' : quiS Hn T u p r') : r = r' := by
  by_cases hf : Feas Hn T u
  · rw [h.1 hf, h'.1 hf]
  · have hl := qT_len hT (u := u) 6 (by omega)
    rcases pk_ix p (n := (qT Hn T u 6).2.length) (by omega) with z | z | ⟨j, hj, e⟩
    · rw [(h.2 hf).1 (Or.inl z), (h'.2 hf).1 (Or.inl z)]
    · rw [(h.2 hf).1 (Or.inr z), (h'.2 hf).1 (Or.inr z)]
    · rw [(h.2 hf).2 j _ (by omega) e (List.getElem?_eq_getElem hj), (h'.2 hf).2 j _ (by omega) e (List.getElem?_eq_getElem hj)]
theorem row_at {n : Int32} {row : Nat → Int32} {Q : List Nat} (h : encQ n row Q) (hQ : Q.length ≤ 72) {p : Int32} (h1 : ¬ p < 0) (h2 : p < n) : vp_in p 72 ∧ ∀ (i e : Nat), i < 100 → p = nI i → Q[i]? = some e → row p.toNatClampNeg = nI e := by
  rw [h.1] at h2
  rcases pk_ix p (n := Q.length) (by omega) with z | z | ⟨j, hj, e⟩
  · exact absurd z h1
  · exact absurd h2 (fun y => by rw [i_lt] at y; rw [i_le] at z; omega)
  · subst e
    refine ⟨vp_in_nI (by omega) (by omega), fun i d hi ei hd => ?_⟩
    obtain rfl : j = i := (nI_eq (by omega) (by omega)).mp ei
    rw [nI_clamp (by omega)]
    exact h.2 j d hd
theorem quarrelled_C {Hn : Nat} (hH : Hn ≤ 20) {tt : Nat → Nat} {sz : Nat → Int32} {w : Nat → Nat} {ow ot fs sn : Nat → Int32} {T : Nat → List Sy} (hT : TXc tt sz w ow ot fs sn Hn T) (u qs wk wy qk mn ms : Int32) (ts hs gs l0 lo qr : Nat → Int32) (hlo : ∀ k, k < 72 → lo k = 0) (hw : wayI wk wy (Feas Hn T u)) (hq : qkI qk qs qr (qT Hn T u 6).2) (p1 : Int32) :
    ∃ q, f_X11_quarrelled (nI Hn) tt u qs wk wy qk mn ms ts hs gs l0 lo qr sz w ow ot fs sn p1 = some q ∧ quiS Hn T u p1 q.1 ∧ wayI q.2.2.1 q.2.2.2.1 (Feas Hn T u) ∧ qkI q.2.2.2.2.1 q.2.1 q.2.2.2.2.2.2.2.2.2.2.2.2 (qT Hn T u 6).2 ∧ ∀ k, k < 72 → q.2.2.2.2.2.2.2.2.2.2.2.1 k = 0 := by
  obtain ⟨q, eq, b1, b2, b3, b4⟩ := hasWay_C hH hT wk wy mn ms ts hs gs l0 lo u hlo hw
  have hw2 : wayI q.2.1 q.2.2.1 (Feas Hn T u) := ⟨Or.inr b3, by rw [b4]; exact b1, fun _ => by rw [b4]; exact b2⟩
  have hl := qT_len (TXc_ok hT) (u := u) 6 (by omega)
  unfold f_X11_quarrelled
  rw [eq]; simp only [bs]
  by_cases hz : q.1 = 0
  · rw [if_pos hz]
    have hnf : ¬ Feas Hn T u := fun hf => absurd (hz.symm.trans (b2.mpr hf)) (by decide)
    obtain ⟨p, ep, c1, c2, c3⟩ := findQ_C hH hT u qs qk q.2.2.2.1 q.2.2.2.2.1 q.2.2.2.2.2.1 q.2.2.2.2.2.2.1 q.2.2.2.2.2.2.2.1 q.2.2.2.2.2.2.2.2 lo qr hlo hq
    rw [ep]; simp only [bs]
    by_cases h1 : p1 < 0
    · rw [if_pos h1]
      exact ⟨_, rfl, ⟨fun hf => absurd hf hnf, fun _ => ⟨fun _ => rfl, fun i e hi ei _ => absurd h1 (by rw [ei]; exact nI_pos (by omega))⟩⟩, hw2, ⟨Or.inr c2, fun _ => c1⟩, c3⟩
    · rw [if_neg h1]
      by_cases h2 : p.1 ≤ p1
      · rw [if_pos h2]
        rw [c1.1] at h2
        refine ⟨_, rfl, ⟨fun hf => absurd hf hnf, fun _ => ⟨fun _ => rfl, fun i e hi ei he => ?_⟩⟩, hw2, ⟨Or.inr c2, fun _ => c1⟩, c3⟩
        have hi2 := (List.getElem?_eq_some_iff.mp he).1
        rw [ei] at h2
        exact absurd h2 (nI_ge hi2 (by omega))
      · rw [if_neg h2]
        have h3 : p1 < p.1 := by rw [i_lt]; rw [i_le] at h2; omega
        obtain ⟨d1, d2⟩ := row_at c1 hl h1 h3
        rw [gIn_of d1]
        refine ⟨_, rfl, ⟨fun hf => absurd hf hnf, fun _ => ⟨fun z => ?_, d2⟩⟩, hw2, ⟨Or.inr c2, fun _ => c1⟩, c3⟩
        rcases z with z | z
        · exact absurd z h1
        · rw [← c1.1] at z; exact absurd z h2
  · rw [if_neg hz]
    have hf := b2.mp (b1.resolve_left hz)
    exact ⟨_, rfl, ⟨fun _ => rfl, fun hn => absurd hf hn⟩, hw2, hq, hlo⟩
theorem quarrel_R {Hn : Nat} (hH : Hn ≤ 20) {ma so on ot lo hi : Nat → Int32} {T : Nat → List Sy} (hT : TXr ma so on ot lo hi Hn T) (th u mb : Int32) (be ah mo le fr qr : Nat → Int32) :
    ∃ q, f_X12_quarrel th (nI Hn) u mb ma so on ot lo hi be ah mo le fr qr = some q ∧ quaS Hn T u q.1 ∧ q.2.1 = 0 := by
  obtain ⟨q, eq, h1, h2⟩ := try_R hH hT u mb be ah mo le fr qr
  unfold f_X12_quarrel
  rw [eq]; simp only [bs]
  exact ⟨_, rfl, ⟨h1, fun hn => (h2 hn).1⟩, rfl⟩
theorem quarrelled_R {Hn : Nat} (hH : Hn ≤ 20) {ma so on ot lo hi : Nat → Int32} {T : Nat → List Sy} (hT : TXr ma so on ot lo hi Hn T) (th u mb : Int32) (be ah mo le fr qr : Nat → Int32) (p1 : Int32) :
    ∃ q, f_X12_quarrelled th (nI Hn) u mb ma so on ot lo hi be ah mo le fr qr p1 = some q ∧ quiS Hn T u p1 q.1 ∧ q.2.1 = 0 := by
  obtain ⟨q, eq, h1, h2⟩ := try_R hH hT u mb be ah mo le fr qr
  have hl := qT_len (TXr_ok hT) (u := u) 6 (by omega)
  unfold f_X12_quarrelled
  rw [eq]; simp only [bs]
  by_cases c1 : p1 < 0
  · rw [if_pos c1]
    exact ⟨_, rfl, ⟨fun _ => rfl, fun _ => ⟨fun _ => rfl, fun i e hi ei _ => absurd c1 (by rw [ei]; exact nI_pos (by omega))⟩⟩, rfl⟩
  · rw [if_neg c1]
    by_cases c2 : p1 < q.1
    · rw [if_pos c2]
      by_cases hf : Feas Hn T u
      · rw [h1 hf] at c2; exact absurd c2 c1
      · obtain ⟨d1, d2⟩ := row_at (h2 hf) hl c1 c2
        rw [gIn_of d1]
        refine ⟨_, rfl, ⟨fun hf2 => absurd hf2 hf, fun _ => ⟨fun z => ?_, d2⟩⟩, rfl⟩
        rcases z with z | z
        · exact absurd z c1
        · rw [← (h2 hf).1] at z; rw [i_le] at z; rw [i_lt] at c2; omega
    · rw [if_neg c2]
      refine ⟨_, rfl, ⟨fun _ => rfl, fun hf => ⟨fun _ => rfl, fun i e hi ei he => ?_⟩⟩, rfl⟩
      have hi2 := (List.getElem?_eq_some_iff.mp he).1
      rw [(h2 hf).1, ei] at c2
      exact absurd (i_lt.mpr (by rw [nI_toInt (by omega), nI_toInt (by omega)]; omega)) c2
