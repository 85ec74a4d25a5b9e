/-! tell -/
def txU (TX : Nat → List (Sy × Nat)) (t : Nat) (A : List (Sy × Nat)) (x : Nat) : List (Sy × Nat) := if x = t then A else TX x
def tlV (R : Ft ⊕ (List (Sy × Nat) × List (List Nat))) : Int32 := match R with
  | .inl e => -1 - nI e.2
  | .inr v => nI v.1.length
def tlF (R : Ft ⊕ (List (Sy × Nat) × List (List Nat))) : Nat := match R with
  | .inl e => e.1
  | .inr _ => 0
def tlN (R : Ft ⊕ (List (Sy × Nat) × List (List Nat))) (NL : List (List Nat)) : List (List Nat) := match R with
  | .inl _ => NL
  | .inr v => v.2
def tlT (R : Ft ⊕ (List (Sy × Nat) × List (List Nat))) (TX : Nat → List (Sy × Nat)) (t : Nat) : Nat → List (Sy × Nat) := match R with
  | .inl _ => TX
  | .inr v => txU TX t v.1
theorem copy_R {ma so on ot lo hi bg : Nat → Int32} {t k : Nat} (ht : t < 6) (hk : k ≤ 12) (hma : ma t = nI k) (a1 a2 a3 a4 a5 a6 a7 a8 a9 : Int32) (b1 : Int64) (c1 c2 : Int32) (d1 : Nat → Int32) (d2 : Nat → Int64) :
    ∃ z, lp (f_X12_tell_l73 a1 a2 a3 a4 a5 a6 a7 a8 a9 b1 c1 c2 d1 d2 ma (nI t)) gFU (0, so, on, ot, lo, hi, bg) = some z ∧ (∀ j, j < k → z.2.1 (12 * t + j) = so (72 + j)) ∧ (∀ x, (x < 12 * t ∨ 12 * t + k ≤ x) → z.2.1 x = so x) ∧ (∀ j, j < k → z.2.2.1 (12 * t + j) = on (72 + j)) ∧ (∀ x, (x < 12 * t ∨ 12 * t + k ≤ x) → z.2.2.1 x = on x) ∧ (∀ j, j < k → z.2.2.2.1 (12 * t + j) = ot (72 + j)) ∧ (∀ x, (x < 12 * t ∨ 12 * t + k ≤ x) → z.2.2.2.1 x = ot x) ∧ (∀ j, j < k → z.2.2.2.2.1 (12 * t + j) = lo (72 + j)) ∧ (∀ x, (x < 12 * t ∨ 12 * t + k ≤ x) → z.2.2.2.2.1 x = lo x) ∧ (∀ j, j < k → z.2.2.2.2.2.1 (12 * t + j) = hi (72 + j)) ∧ (∀ x, (x < 12 * t ∨ 12 * t + k ≤ x) → z.2.2.2.2.2.1 x = hi x) ∧ (∀ j, j < k → z.2.2.2.2.2.2 (12 * t + j) = bg (72 + j)) ∧ (∀ x, (x < 12 * t ∨ 12 * t + k ≤ x) → z.2.2.2.2.2.2 x = bg x) := by
  refine lp_rule (body := f_X12_tell_l73 a1 a2 a3 a4 a5 a6 a7 a8 a9 b1 c1 c2 d1 d2 ma (nI t)) (fun sg => ∃ i : Nat, i ≤ k ∧ sg.1 = nI i ∧ (∀ j, j < i → sg.2.1 (12 * t + j) = so (72 + j)) ∧ (∀ x, (x < 12 * t ∨ 12 * t + i ≤ x) → sg.2.1 x = so x) ∧ (∀ j, j < i → sg.2.2.1 (12 * t + j) = on (72 + j)) ∧ (∀ x, (x < 12 * t ∨ 12 * t + i ≤ x) → sg.2.2.1 x = on x) ∧ (∀ j, j < i → sg.2.2.2.1 (12 * t + j) = ot (72 + j)) ∧ (∀ x, (x < 12 * t ∨ 12 * t + i ≤ x) → sg.2.2.2.1 x = ot x) ∧ (∀ j, j < i → sg.2.2.2.2.1 (12 * t + j) = lo (72 + j)) ∧ (∀ x, (x < 12 * t ∨ 12 * t + i ≤ x) → sg.2.2.2.2.1 x = lo x) ∧ (∀ j, j < i → sg.2.2.2.2.2.1 (12 * t + j) = hi (72 + j)) ∧ (∀ x, (x < 12 * t ∨ 12 * t + i ≤ x) → sg.2.2.2.2.2.1 x = hi x) ∧ (∀ j, j < i → sg.2.2.2.2.2.2 (12 * t + j) = bg (72 + j)) ∧ (∀ x, (x < 12 * t ∨ 12 * t + i ≤ x) → sg.2.2.2.2.2.2 x = bg x)) (fun sg => k - sg.1.toNatClampNeg) (fun z => (∀ j, j < k → z.2.1 (12 * t + j) = so (72 + j)) ∧ (∀ x, (x < 12 * t ∨ 12 * t + k ≤ x) → z.2.1 x = so x) ∧ (∀ j, j < k → z.2.2.1 (12 * t + j) = on (72 + j)) ∧ (∀ x, (x < 12 * t ∨ 12 * t + k ≤ x) → z.2.2.1 x = on x) ∧ (∀ j, j < k → z.2.2.2.1 (12 * t + j) = ot (72 + j)) ∧ (∀ x, (x < 12 * t ∨ 12 * t + k ≤ x) → z.2.2.2.1 x = ot x) ∧ (∀ j, j < k → z.2.2.2.2.1 (12 * t + j) = lo (72 + j)) ∧ (∀ x, (x < 12 * t ∨ 12 * t + k ≤ x) → z.2.2.2.2.1 x = lo x) ∧ (∀ j, j < k → z.2.2.2.2.2.1 (12 * t + j) = hi (72 + j)) ∧ (∀ x, (x < 12 * t ∨ 12 * t + k ≤ x) → z.2.2.2.2.2.1 x = hi x) ∧ (∀ j, j < k → z.2.2.2.2.2.2 (12 * t + j) = bg (72 + j)) ∧ (∀ x, (x < 12 * t ∨ 12 * t + k ≤ x) → z.2.2.2.2.2.2 x = bg x)) ?_ gFU (0, so, on, ot, lo, hi, bg) ⟨0, Nat.zero_le _, nI_0.symm, fun j hj => absurd hj (Nat.not_lt_zero j), fun x _ => rfl, fun j hj => absurd hj (Nat.not_lt_zero j), fun x _ => rfl, fun j hj => absurd hj (Nat.not_lt_zero j), fun x _ => rfl, fun j hj => absurd hj (Nat.not_lt_zero j), fun x _ => rfl, fun j hj => absurd hj (Nat.not_lt_zero j), fun x _ => rfl, fun j hj => absurd hj (Nat.not_lt_zero j), fun x _ => rfl⟩ (by show k - (0 : Int32).toNatClampNeg < 100000; omega)
  intro sg hinv
  obtain ⟨i, hi', e1, u0, v0, u1, v1, u2, v2, u3, v3, u4, v4, u5, v5⟩ := hinv
  unfold f_X12_tell_l73
  rw [e1, gIn_of (vp_in_nI (show t < 7 by omega) (by omega)), nI_clamp (show t < 2 ^ 31 by omega), hma]
  by_cases hlt : i < k
  · have ea : (72 : Int32) + nI i = nI (72 + i) := by rw [show (72 : Int32) = nI 72 from rfl, nI_add]
    have eb : (12 : Int32) * nI t + nI i = nI (12 * t + i) := by rw [show (12 : Int32) = nI 12 from rfl, pk_mul, nI_add]
    rw [if_neg (nI_ge hlt (by omega))]
    simp only [ea, eb, gIn_of (vp_in_nI (show 72 + i < 84 by omega) (by omega)), gIn_of (vp_in_nI (show 12 * t + i < 84 by omega) (by omega)), nI_clamp (show 72 + i < 2 ^ 31 by omega), nI_clamp (show 12 * t + i < 2 ^ 31 by omega)]
    have st1 : ∀ (f g : Nat → Int32), (∀ j, j < i → f (12 * t + j) = g (72 + j)) → (∀ x, (x < 12 * t ∨ 12 * t + i ≤ x) → f x = g x) → (∀ j, j < i + 1 → upd f (12 * t + i) (f (72 + i)) (12 * t + j) = g (72 + j)) ∧ (∀ x, (x < 12 * t ∨ 12 * t + (i + 1) ≤ x) → upd f (12 * t + i) (f (72 + i)) x = g x) := by
      intro f g h1 h2
      refine ⟨fun j hj => ?_, fun x hx => ?_⟩
      · by_cases hji : j = i
        · subst hji; rw [upd_s]; exact h2 _ (by omega)
        · rw [upd_n (by omega)]; exact h1 j (by omega)
      · rw [upd_n (by omega)]; exact h2 x (by omega)
    exact Or.inl ⟨_, rfl, ⟨i + 1, hlt, by rw [← nI_1], (st1 _ _ u0 v0).1, (st1 _ _ u0 v0).2, (st1 _ _ u1 v1).1, (st1 _ _ u1 v1).2, (st1 _ _ u2 v2).1, (st1 _ _ u2 v2).2, (st1 _ _ u3 v3).1, (st1 _ _ u3 v3).2, (st1 _ _ u4 v4).1, (st1 _ _ u4 v4).2, (st1 _ _ u5 v5).1, (st1 _ _ u5 v5).2⟩, by rw [nI_1, nI_clamp (by omega), nI_clamp (by omega)]; omega⟩
  · obtain rfl : i = k := by omega
    rw [if_pos (nI_le (Nat.le_refl _) (by omega))]
    exact Or.inr ⟨_, rfl, u0, v0, u1, v1, u2, v2, u3, v3, u4, v4, u5, v5⟩
theorem tell_R {a : Nat → Int32} {B : Nat → Nat} {n : Nat} {L : List (Nat × Nat)} (hn : n ≤ 440) (hB : BT a n B) (hL : TKS B n L) {NL : List (List Nat)} (hN : nmsOk NL) {hp : Nat → Int64} (hE : encH hp NL) {ma so on ot lo hi bg : Nat → Int32} {TX : Nat → List (Sy × Nat)} (hT : TXR ma so on ot lo hi bg NL.length TX) (th sz to fr kd nu ft pl : Int32) (nm : Int64) (nh : Int32) (p1 : Int32) :
    ∃ q, f_X12_tell th (nI n) sz to fr kd nu ft pl nm (nI NL.length) nh a hp ma so on ot lo hi bg p1 = some q ∧
      ((∀ t, t < 6 → ¬ p1 = nI t) → q.2.1 = 1 ∧ q.2.2.1 = nI n ∧ q.2.2.2.2.2.2.2.2.1 = ft ∧ q.2.2.2.2.2.2.2.2.2.2.2.1 = nI NL.length ∧ q.2.2.2.2.2.2.2.2.2.2.2.2.2.1 = hp ∧ q.2.2.2.2.2.2.2.2.2.2.2.2.2.2.1 = ma ∧ q.2.2.2.2.2.2.2.2.2.2.2.2.2.2.2.1 = so ∧ q.2.2.2.2.2.2.2.2.2.2.2.2.2.2.2.2.1 = on ∧ q.2.2.2.2.2.2.2.2.2.2.2.2.2.2.2.2.2.1 = ot ∧ q.2.2.2.2.2.2.2.2.2.2.2.2.2.2.2.2.2.2.1 = lo ∧ q.2.2.2.2.2.2.2.2.2.2.2.2.2.2.2.2.2.2.2.1 = hi ∧ q.2.2.2.2.2.2.2.2.2.2.2.2.2.2.2.2.2.2.2.2 = bg) ∧
      (∀ t, t < 6 → p1 = nI t → q.2.1 = 0 ∧ q.2.2.1 = 0 ∧ q.1 = tlV (pText B n L 13 [] NL 0) ∧ q.2.2.2.2.2.2.2.2.1 = nI (tlF (pText B n L 13 [] NL 0)) ∧ q.2.2.2.2.2.2.2.2.2.2.2.1 = nI (tlN (pText B n L 13 [] NL 0) NL).length ∧ nmsOk (tlN (pText B n L 13 [] NL 0) NL) ∧ encH q.2.2.2.2.2.2.2.2.2.2.2.2.2.1 (tlN (pText B n L 13 [] NL 0) NL) ∧ TXR q.2.2.2.2.2.2.2.2.2.2.2.2.2.2.1 q.2.2.2.2.2.2.2.2.2.2.2.2.2.2.2.1 q.2.2.2.2.2.2.2.2.2.2.2.2.2.2.2.2.1 q.2.2.2.2.2.2.2.2.2.2.2.2.2.2.2.2.2.1 q.2.2.2.2.2.2.2.2.2.2.2.2.2.2.2.2.2.2.1 q.2.2.2.2.2.2.2.2.2.2.2.2.2.2.2.2.2.2.2.1 q.2.2.2.2.2.2.2.2.2.2.2.2.2.2.2.2.2.2.2.2 (tlN (pText B n L 13 [] NL 0) NL).length (tlT (pText B n L 13 [] NL 0) TX t)) := by
  unfold f_X12_tell
  rcases teller_R p1 with ⟨t, ht, rfl, e⟩ | ⟨hno, e⟩
  · rw [e]; simp only [bs]
    rw [if_neg (show ¬ (1 : Int32) = 0 by decide)]
    obtain ⟨r, er, hma, hfr, hcase⟩ := text_R hn hB hL hN hE to fr kd nu pl nm nh ma so on ot lo hi bg
    rw [er]; simp only [bs]
    rcases hcase with ⟨eok, A, NL', hR, eft, hA, hN', hpre, enh, hE', em6, hsay⟩ | ⟨eok, ee, hR, hfk, eft, epl, NL', hpre, hN', hE'⟩
    · rw [if_neg (by rw [eok]; decide), gIn_of (show vp_in 6 7 from vp_in_nI (n := 6) (by omega) (by omega)), gIn_of (vp_in_nI (show t < 7 by omega) (by omega)), show Int32.toNatClampNeg 6 = 6 from rfl, nI_clamp (show t < 2 ^ 31 by omega), em6]
      obtain ⟨z, ez, u0, v0, u1, v1, u2, v2, u3, v3, u4, v4, u5, v5⟩ := copy_R (ma := upd r.2.2.2.2.2.2.2.2.2.2.1 t (nI A.length)) (so := r.2.2.2.2.2.2.2.2.2.2.2.1) (on := r.2.2.2.2.2.2.2.2.2.2.2.2.1) (ot := r.2.2.2.2.2.2.2.2.2.2.2.2.2.1) (lo := r.2.2.2.2.2.2.2.2.2.2.2.2.2.2.1) (hi := r.2.2.2.2.2.2.2.2.2.2.2.2.2.2.2.1) (bg := r.2.2.2.2.2.2.2.2.2.2.2.2.2.2.2.2) ht hA upd_s 0 0 (nI n) r.2.1 r.2.2.1 r.2.2.2.1 r.2.2.2.2.1 r.2.2.2.2.2.1 r.2.2.2.2.2.2.1 r.2.2.2.2.2.2.2.1 r.2.2.2.2.2.2.2.2.1 r.2.2.2.2.2.2.2.2.1 a r.2.2.2.2.2.2.2.2.2.1
      rw [ez]; simp only [bs]
      rw [gIn_of (vp_in_nI (show t < 7 by omega) (by omega))]
      refine ⟨_, rfl, fun z => absurd rfl (z t ht), fun t' ht' e' => ?_⟩
      obtain rfl : t = t' := (nI_eq (by omega) (by omega)).mp e'
      rw [hR]
      refine ⟨rfl, rfl, upd_s, eft, enh, hN', hE', fun x hx => ?_⟩
      show upd r.2.2.2.2.2.2.2.2.2.2.1 t (nI A.length) x = nI (txU TX t A x).length ∧ (txU TX t A x).length ≤ 12 ∧ ∀ k s, (txU TX t A x)[k]? = some s → sOk NL'.length s.1 ∧ sayY z.2.1 z.2.2.1 z.2.2.2.1 z.2.2.2.2.1 z.2.2.2.2.2.1 z.2.2.2.2.2.2 (12 * x + k) s
      have gl := hpre.length_le
      by_cases hxt : x = t
      · subst hxt
        have ex : txU TX x A x = A := if_pos rfl
        rw [ex, upd_s]
        refine ⟨rfl, hA, fun k s hs => ?_⟩
        have hk := (List.getElem?_eq_some_iff.mp hs).1
        obtain ⟨w1, ⟨w2, w3, w4, w5, w6⟩, w7, w8⟩ := hsay k s hs
        exact ⟨w1, ⟨(u0 k hk).trans w2, (u1 k hk).trans w3, fun z => (u2 k hk).trans (w4 z), (u3 k hk).trans w5, (u4 k hk).trans w6⟩, fun z => (u2 k hk).trans (w7 z), (u5 k hk).trans w8⟩
      · have ex : txU TX t A x = TX x := if_neg hxt
        obtain ⟨g1, g2, g3⟩ := hT x hx
        rw [ex, upd_n hxt, hma x (by omega)]
        refine ⟨g1, g2, fun k s hs => ?_⟩
        have hk := (List.getElem?_eq_some_iff.mp hs).1
        obtain ⟨w1, ⟨w2, w3, w4, w5, w6⟩, w7, w8⟩ := g3 k s hs
        obtain ⟨f0, f1, f2, f3, f4, f5⟩ := hfr (12 * x + k) (by omega)
        have hout : 12 * x + k < 12 * t ∨ 12 * t + A.length ≤ 12 * x + k := by omega
        exact ⟨sOk_mono w1 gl, ⟨((v0 _ hout).trans f0).trans w2, ((v1 _ hout).trans f1).trans w3, fun z => ((v2 _ hout).trans f2).trans (w4 z), ((v3 _ hout).trans f3).trans w5, ((v4 _ hout).trans f4).trans w6⟩, fun z => ((v2 _ hout).trans f2).trans (w7 z), ((v5 _ hout).trans f5).trans w8⟩
    · rw [if_pos eok]
      refine ⟨_, rfl, fun z => absurd rfl (z t ht), fun t' ht' e' => ?_⟩
      rw [hR]
      refine ⟨rfl, rfl, ?_, eft, rfl, hN, ?_, fun x hx => ?_⟩
      · show -1 - r.2.2.2.2.2.2.1 = -1 - nI ee.2
        rw [epl]
      · intro h l hl
        have hl : NL[h]? = some l := hl
        obtain ⟨tl, rfl⟩ := hpre
        exact hE' h l (by rw [List.getElem?_append_left (List.getElem?_eq_some_iff.mp hl).1]; exact hl)
      · obtain ⟨g1, g2, g3⟩ := hT x hx
        show r.2.2.2.2.2.2.2.2.2.2.1 x = nI (TX x).length ∧ (TX x).length ≤ 12 ∧ ∀ k s, (TX x)[k]? = some s → sOk NL.length s.1 ∧ sayY r.2.2.2.2.2.2.2.2.2.2.2.1 r.2.2.2.2.2.2.2.2.2.2.2.2.1 r.2.2.2.2.2.2.2.2.2.2.2.2.2.1 r.2.2.2.2.2.2.2.2.2.2.2.2.2.2.1 r.2.2.2.2.2.2.2.2.2.2.2.2.2.2.2.1 r.2.2.2.2.2.2.2.2.2.2.2.2.2.2.2.2 (12 * x + k) s
        rw [hma x (by omega)]
        refine ⟨g1, g2, fun k s hs => ?_⟩
        have hk := (List.getElem?_eq_some_iff.mp hs).1
        obtain ⟨w1, ⟨w2, w3, w4, w5, w6⟩, w7, w8⟩ := g3 k s hs
        obtain ⟨f0, f1, f2, f3, f4, f5⟩ := hfr (12 * x + k) (by omega)
        exact ⟨w1, ⟨f0.trans w2, f1.trans w3, fun z => f2.trans (w4 z), f3.trans w5, f4.trans w6⟩, fun z => f2.trans (w7 z), f5.trans w8⟩
  · rw [e]; simp only [bs]
    rw [if_pos trivial]
    unfold f_X12_refuse
    exact ⟨_, rfl, fun _ => ⟨rfl, rfl, rfl, rfl, rfl, rfl, rfl, rfl, rfl, rfl, rfl, rfl⟩, fun t ht e => absurd e (hno t ht)⟩
theorem tell_C {a le nl : Nat → Int32} {B : Nat → Nat} {n : Nat} (hn : n ≤ 440) (hB : BY a n B) {NL : List (List Nat)} (hN : nmsOk NL) (hE : encN le nl NL) {tt : Nat → Nat} {dr : Nat} {tz : Nat → Int32} {w : Nat → Nat} {ow ot fs sn pc : Nat → Int32} {TX : Nat → List (Sy × Nat)} (hT : TXC tt dr tz w ow ot fs sn pc NL.length TX) (he fk fp mt : Int32) (ty : Nat → Nat) (st ln : Nat → Int32) (wk qk lk : Int32) (p1 : Int32) :
    ∃ q L, f_X11_tell dr (nI n) a (nI NL.length) (nI NL.length) le nl tt he fk fp mt ty st ln wk qk lk tz w ow ot fs sn pc p1 = some q ∧ TKS B n L ∧
      ((∀ t, t < 6 → ¬ p1 = nI t) → q = .inr (1, dr, nI n, nI NL.length, nI NL.length, le, nl, tt, he, fk, fp, mt, ty, st, ln, wk, qk, lk, tz, w, ow, ot, fs, sn, pc)) ∧
      (∀ t, t < 6 → p1 = nI t → ∃ x, q = .inl x ∧ tlF (pText B n L 13 [] NL 0) < 5 ∧ NL <+: tlN (pText B n L 13 [] NL 0) NL ∧ nmsOk (tlN (pText B n L 13 [] NL 0) NL) ∧ x.1 = tlV (pText B n L 13 [] NL 0) ∧ x.2.2.1 = 0 ∧ x.2.2.2.1 = nI (tlN (pText B n L 13 [] NL 0) NL).length ∧ x.2.2.2.2.1 = nI (tlN (pText B n L 13 [] NL 0) NL).length ∧ encN x.2.2.2.2.2.1 x.2.2.2.2.2.2.1 (tlN (pText B n L 13 [] NL 0) NL) ∧ x.2.2.2.2.2.2.2.2.2.1 = nI (tlF (pText B n L 13 [] NL 0)) ∧ TXC x.2.2.2.2.2.2.2.1 x.2.1 x.2.2.2.2.2.2.2.2.2.2.2.2.2.2.2.2.2.2.1 x.2.2.2.2.2.2.2.2.2.2.2.2.2.2.2.2.2.2.2.1 x.2.2.2.2.2.2.2.2.2.2.2.2.2.2.2.2.2.2.2.2.1 x.2.2.2.2.2.2.2.2.2.2.2.2.2.2.2.2.2.2.2.2.2.1 x.2.2.2.2.2.2.2.2.2.2.2.2.2.2.2.2.2.2.2.2.2.2.1 x.2.2.2.2.2.2.2.2.2.2.2.2.2.2.2.2.2.2.2.2.2.2.2.1 x.2.2.2.2.2.2.2.2.2.2.2.2.2.2.2.2.2.2.2.2.2.2.2.2 (tlN (pText B n L 13 [] NL 0) NL).length (tlT (pText B n L 13 [] NL 0) TX t) ∧
        ((∃ e, pText B n L 13 [] NL 0 = .inl e ∧ x.2.2.2.2.2.2.2.2.2.2.2.2.2.2.2.1 = wk ∧ x.2.2.2.2.2.2.2.2.2.2.2.2.2.2.2.2.1 = qk ∧ x.2.2.2.2.2.2.2.2.2.2.2.2.2.2.2.2.2.1 = lk) ∨ (x.2.2.2.2.2.2.2.2.2.2.2.2.2.2.2.1 = 0 ∧ x.2.2.2.2.2.2.2.2.2.2.2.2.2.2.2.2.1 = 0 ∧ x.2.2.2.2.2.2.2.2.2.2.2.2.2.2.2.2.2.1 = 0))) := by
  obtain ⟨hdr, hTx⟩ := hT
  obtain ⟨q, L, eq, hL, ⟨hfz, hfr⟩, q1, q2⟩ := read_C hn hB hN hE he fk fp mt ty st ln tz w ow ot fs sn pc hdr
  unfold f_X11_tell
  rcases teller_C p1 with ⟨t, ht, rfl, e⟩ | ⟨hno, e⟩
  · rw [e]; simp only [bs]
    rw [if_neg (show ¬ (1 : Int32) = 0 by decide), eq]
    simp only [bs]
    cases hR : pText B n L 13 [] NL 0 with
    | inl ee =>
      obtain ⟨g0, g1, g2, g3, g4, g5, g6⟩ := q1 ee hR
      rw [if_pos g1]
      refine ⟨_, L, rfl, hL, fun z => absurd rfl (z t ht), fun t' ht' e' => ?_⟩
      rw [hR]
      refine ⟨_, rfl, by have := g0.2; show ee.1 < 5; omega, List.prefix_refl _, hN, ?_, rfl, g2, g3, g4, g5, ⟨hdr, fun y hy => ?_⟩, Or.inl ⟨ee, rfl, rfl, rfl, rfl⟩⟩
      · show -1 - _ = -1 - nI ee.2
        rw [g6]
      · obtain ⟨h1, h2, h3, h4, h5, h6⟩ := hTx y hy
        refine ⟨h1, h2, h3, (hfz _ h2).trans h4, h5, fun k s hs => ?_⟩
        have hs : (TX y)[k]? = some s := hs
        have hk := (List.getElem?_eq_some_iff.mp hs).1
        obtain ⟨w1, ⟨w2, w3, w4, w5, w6⟩, w7, w8⟩ := h6 k s hs
        obtain ⟨f0, f1, f2, f3, f4, f5⟩ := hfr (12 * tt y + k) (by omega)
        exact ⟨w1, ⟨f0.trans w2, f1.trans w3, fun z => f2.trans (w4 z), f3.trans w5, f4.trans w6⟩, fun z => f2.trans (w7 z), f5.trans w8⟩
    | inr v =>
      obtain ⟨A, NL'⟩ := v
      obtain ⟨g1, g2, g3, g4, g5, g6, g7, g8, g9, g10⟩ := q2 A NL' hR
      rw [if_neg (by rw [g1]; decide), gIn_of (vp_in_nI (show t < 6 by omega) (by omega)), gIn_of (vp_in_nI (show t < 6 by omega) (by omega)), gN_of hdr]
      unfold f_X1_forget
      simp only [bs]
      rw [gIn_of (vp_in_nI (show t < 6 by omega) (by omega)), nI_clamp (show t < 2 ^ 31 by omega), vu_s, gN_of hdr, g9]
      have gl := g6.length_le
      obtain ⟨ht1, ht2, ht3, -⟩ := hTx t ht
      have key : TXC (va_up tt t dr) (tt t) q.2.2.2.2.2.2.2.2.2.2.2.2.1 q.2.2.2.2.2.2.2.2.2.2.2.2.2.1 q.2.2.2.2.2.2.2.2.2.2.2.2.2.2.1 q.2.2.2.2.2.2.2.2.2.2.2.2.2.2.2.1 q.2.2.2.2.2.2.2.2.2.2.2.2.2.2.2.2.1 q.2.2.2.2.2.2.2.2.2.2.2.2.2.2.2.2.2.1 q.2.2.2.2.2.2.2.2.2.2.2.2.2.2.2.2.2.2 NL'.length (txU TX t A) := by
        refine ⟨ht1, fun y hy => ?_⟩
        obtain ⟨h1, h2, h3, h4, h5, h6⟩ := hTx y hy
        by_cases hyt : y = t
        · subst hyt
          have ex2 : txU TX y A y = A := if_pos rfl
          rw [vu_s, ex2]
          refine ⟨hdr, fun z => h2 z.symm, fun y' hy' e'' => ?_, g9, g8, g10⟩
          by_cases z : y' = y
          · exact z.symm
          · rw [vu_n z] at e''; exact absurd e''.symm (hTx y' hy').2.1
        · have ex2 : txU TX t A y = TX y := if_neg hyt
          rw [vu_n hyt, ex2]
          refine ⟨h1, fun z => hyt (h3 t ht z), fun y' hy' e'' => ?_, (hfz _ h2).trans h4, h5, fun k s hs => ?_⟩
          · by_cases z : y' = t
            · subst z; rw [vu_s] at e''; exact absurd e'' h2
            · rw [vu_n z] at e''; exact h3 y' hy' e''
          · have hk := (List.getElem?_eq_some_iff.mp hs).1
            obtain ⟨w1, ⟨w2, w3, w4, w5, w6⟩, w7, w8⟩ := h6 k s hs
            obtain ⟨f0, f1, f2, f3, f4, f5⟩ := hfr (12 * tt y + k) (by omega)
            exact ⟨sOk_mono w1 gl, ⟨f0.trans w2, f1.trans w3, fun z => f2.trans (w4 z), f3.trans w5, f4.trans w6⟩, fun z => f2.trans (w7 z), f5.trans w8⟩
      refine ⟨_, L, rfl, hL, fun z => absurd rfl (z t ht), fun t' ht' e' => ?_⟩
      obtain rfl : t = t' := (nI_eq (by omega) (by omega)).mp e'
      rw [hR]
      exact ⟨_, rfl, show 0 < 5 by omega, g6, g5, rfl, rfl, g2, g3, g4, g7, key, Or.inr ⟨rfl, rfl, rfl⟩⟩
  · rw [e]; simp only [bs]
    rw [if_pos trivial]
    exact ⟨_, L, rfl, hL, fun _ => rfl, fun t ht e => absurd e (hno t ht)⟩
