/-! the reference reads a saying -/
def rsR (B : Nat → Nat) (n : Nat) (L : List (Nat × Nat)) (x : Ft ⊕ (Sy × List (List Nat) × Nat)) (NL : List (List Nat)) (r : Nat) (ft pl : Int32) (q : Int32 × Int32 × Int32 × Int32 × Int32 × Int32 × Int32 × Int64 × Int32 × (Nat → Int64) × (Nat → Int32) × (Nat → Int32) × (Nat → Int32) × (Nat → Int32) × (Nat → Int32) × (Nat → Int32)) : Prop := match x with
  | .inl e => q.1 = 0 ∧ q.2.2.2.2.2.1 = nI e.1 ∧ q.2.2.2.2.2.2.1 = nI e.2 ∧ ∃ NL', NL <+: NL' ∧ nmsOk NL' ∧ encH q.2.2.2.2.2.2.2.2.2.1 NL'
  | .inr v => q.1 = 1 ∧ q.2.2.2.2.2.1 = ft ∧ q.2.2.2.2.2.2.1 = pl ∧ refAt B n L v.2.2 q.2.1 q.2.2.1 q.2.2.2.1 q.2.2.2.2.1 q.2.2.2.2.2.2.2.1 ∧ q.2.2.2.2.2.2.2.2.1 = nI v.2.1.length ∧ encH q.2.2.2.2.2.2.2.2.2.1 v.2.1 ∧ q.2.2.2.2.2.2.2.2.2.2.1 r = nI v.1.1 ∧ (5 ≤ v.1.1 → q.2.2.2.2.2.2.2.2.2.2.2.2.1 r = nI v.1.2.2.1) ∧ (v.1.1 < 5 → q.2.2.2.2.2.2.2.2.2.2.2.2.1 r = -1) ∧ q.2.2.2.2.2.2.2.2.2.2.2.2.2.1 r = oI v.1.2.2.2.1 ∧ q.2.2.2.2.2.2.2.2.2.2.2.2.2.2.1 r = oI v.1.2.2.2.2
def frR (r : Nat) (so on ot lo hi bg : Nat → Int32) (q : Int32 × Int32 × Int32 × Int32 × Int32 × Int32 × Int32 × Int64 × Int32 × (Nat → Int64) × (Nat → Int32) × (Nat → Int32) × (Nat → Int32) × (Nat → Int32) × (Nat → Int32) × (Nat → Int32)) : Prop := (∀ x, x ≠ r → q.2.2.2.2.2.2.2.2.2.2.1 x = so x ∧ q.2.2.2.2.2.2.2.2.2.2.2.2.1 x = ot x ∧ q.2.2.2.2.2.2.2.2.2.2.2.2.2.1 x = lo x ∧ q.2.2.2.2.2.2.2.2.2.2.2.2.2.2.1 x = hi x) ∧ q.2.2.2.2.2.2.2.2.2.2.2.1 = on ∧ q.2.2.2.2.2.2.2.2.2.2.2.2.2.2.2 = bg
theorem b184_R {a : Nat → Int32} {B : Nat → Nat} {n : Nat} {L : List (Nat × Nat)} (hn : n ≤ 440) (hB : BT a n B) (hL : TKS B n L) {NL : List (List Nat)} (hN : nmsOk NL) {hp : Nat → Int64} (hE : encH hp NL) {i h : Nat} (hh : h < NL.length) {to fr kd nu : Int32} {nm : Int64} (hr : refAt B n L i to fr kd nu nm) (ft pl : Int32) (ma so on ot lo hi bg : Nat → Int32) {r : Nat} (hr84 : r < 84) (hon : on r = nI h) (hot : ot r = -1) (hlo : lo r = -1) (hhi : hi r = -1) :
    ∃ q, f_X12_readSaying_b184 (nI n) to fr kd nu ft pl nm (nI NL.length) a hp ma so on ot lo hi bg (nI r) (if tyT B L i < 7 then nI (tyT B L i) else -1) (nI r) = some q ∧ rsR B n L (pRest B n L NL h i) NL r ft pl q ∧ frR r so on ot lo hi bg q := by
  have f2 : ∀ (g : Nat → Int32) (k : Int32) (x : Nat), x ≠ r → upd g r k x = g x := fun g k x hx => upd_n hx
  have hin : ∀ (z : Option (Int32 × Int32 × Int32 × Int32 × Int32 × Int32 × Int32 × Int64 × Int32 × (Nat → Int64) × (Nat → Int32) × (Nat → Int32) × (Nat → Int32) × (Nat → Int32) × (Nat → Int32) × (Nat → Int32))), gIn (nI r) 84 z = z := fun z => gIn_of (vp_in_nI hr84 (by omega))
  unfold f_X12_readSaying_b184
  rw [hin, hin, nI_clamp (show r < 2 ^ 31 by omega), upd_s]
  by_cases h7 : tyT B L i < 7
  · have hlt : i < L.length := (tok_of (w := tyT B L i) rfl (by omega)).1
    rw [if_pos h7, if_neg (nI_n1 (by omega)), hr.2.2.2.2 hlt]
    obtain ⟨g, eg, hg⟩ := go_R hn hB hL (show i + 1 ≤ L.length by omega) fr kd nu nm
    rw [eg]; simp only [bs]
    rw [hin]
    unfold pRest
    have hc : tyT B L i = 0 ∨ tyT B L i = 1 ∨ tyT B L i = 2 ∨ tyT B L i = 3 ∨ tyT B L i = 4 ∨ tyT B L i = 5 ∨ tyT B L i = 6 := by omega
    have err : ∀ (e : Ft) (y : Int32 × Int32 × Int32 × Int32 × Int32 × Int32 × Int32 × Int64 × Int32 × (Nat → Int64) × (Nat → Int32) × (Nat → Int32) × (Nat → Int32) × (Nat → Int32) × (Nat → Int32) × (Nat → Int32)), y.1 = 0 → y.2.2.2.2.2.1 = nI e.1 → y.2.2.2.2.2.2.1 = nI e.2 → encH y.2.2.2.2.2.2.2.2.2.1 NL → rsR B n L (.inl e) NL r ft pl y :=
      fun e y g1 g2 g3 g4 => ⟨g1, g2, g3, NL, List.prefix_refl _, hN, g4⟩
    have one : ∀ K, (K = 0 ∨ K = 2 ∨ K = 3) → ∃ q, ((f_X12_readNumber (nI n) g.1 g.2.1 g.2.2.1 g.2.2.2.1 ft pl g.2.2.2.2 a 0).bind (fun q88 =>
        gIn (nI r) 84 (gIn (nI r) 84 (
        if ((upd lo r q88.1) r) = (-1) then
        some (0, q88.2.1, q88.2.2.1, q88.2.2.2.1, q88.2.2.2.2.1, q88.2.2.2.2.2.1, q88.2.2.2.2.2.2.1, q88.2.2.2.2.2.2.2, nI NL.length, hp, upd so r (nI K), on, ot, upd lo r q88.1, hi, bg)
        else
        some (1, q88.2.1, q88.2.2.1, q88.2.2.2.1, q88.2.2.2.2.1, q88.2.2.2.2.2.1, q88.2.2.2.2.2.2.1, q88.2.2.2.2.2.2.2, nI NL.length, hp, upd so r (nI K), on, ot, upd lo r q88.1, hi, bg))))) = some q ∧ rsR B n L (pb (pNum B n L (i + 1) 0) (fun q => .inr ((K, h, 0, some q.1, none), NL, q.2))) NL r ft pl q ∧ frR r so on ot lo hi bg q := by
      intro K hK
      have hnum : ∃ q, f_X12_readNumber (nI n) g.1 g.2.1 g.2.2.1 g.2.2.2.1 ft pl g.2.2.2.2 a 0 = some q ∧ numR B n L (pNum B n L (i + 1) 0) ft pl q := num_R (least := 0) hn hB hL hg (by omega) ft pl
      obtain ⟨q, eq, hq⟩ := hnum
      rw [eq]; simp only [bs]
      rw [hin, hin, upd_s]
      cases hx : pNum B n L (i + 1) 0 with
      | inl e =>
        rw [hx] at hq
        obtain ⟨k1, k2, k3⟩ := hq
        rw [if_pos k1]
        exact ⟨_, rfl, err e _ rfl k2 k3 hE, fun x hx => ⟨f2 _ _ x hx, rfl, f2 _ _ x hx, rfl⟩, rfl, rfl⟩
      | inr v =>
        obtain ⟨v, i'⟩ := v
        rw [hx] at hq
        obtain ⟨n1, n2, n3, n4⟩ := num_ok hx
        obtain ⟨k1, k2, k3, k4⟩ := hq
        dsimp only at k1 k4
        rw [if_neg (by rw [k1]; exact nI_n1 (by omega))]
        refine ⟨_, rfl, ⟨rfl, k2, k3, k4, rfl, hE, upd_s, fun z => absurd (show 5 ≤ K from z) (by omega), fun _ => hot, ?_, hhi⟩, fun x hx => ⟨f2 _ _ x hx, rfl, f2 _ _ x hx, rfl⟩, rfl, rfl⟩
        show upd lo r q.1 r = nI v
        rw [upd_s, k1]
    have two : ∀ (K : Nat) (must : Bool), (K = 1 ∨ K = 4) → ∃ q, f_X12_readSaying_b243 (nI n) g.1 g.2.1 g.2.2.1 g.2.2.2.1 ft pl g.2.2.2.2 (nI NL.length) a hp ma (upd so r (nI K)) on ot lo hi bg (ob must) 0 (nI r) = some q ∧ rsR B n L (pb (pSpan B n L (i + 1) 0 must) (fun q => .inr ((K, h, 0, some q.1, q.2.1), NL, q.2.2))) NL r ft pl q ∧ frR r so on ot lo hi bg q := by
      intro K must hK
      have hsp : ∃ q, f_X12_readSpan (nI n) g.1 g.2.1 g.2.2.1 g.2.2.2.1 ft pl g.2.2.2.2 a lo hi (nI r) 0 (ob must) = some q ∧ spanR B n L (pSpan B n L (i + 1) 0 must) r ft pl q ∧ (q.1 = 0 ∨ q.1 = 1) ∧ ∀ x, x ≠ r → q.2.2.2.2.2.2.2.2.1 x = lo x ∧ q.2.2.2.2.2.2.2.2.2 x = hi x := span_R (least := 0) hn hB hL hg (by omega) ft pl lo hi hr84 hhi must
      obtain ⟨q, eq, hq, h01, hfr⟩ := hsp
      unfold f_X12_readSaying_b243
      rw [eq]; simp only [bs]
      rw [gB_of h01]
      cases hx : pSpan B n L (i + 1) 0 must with
      | inl e =>
        rw [hx] at hq
        obtain ⟨k1, k2, k3⟩ := hq
        exact ⟨_, rfl, err e _ k1 k2 k3 hE, fun x hx => ⟨f2 _ _ x hx, rfl, (hfr x hx).1, (hfr x hx).2⟩, rfl, rfl⟩
      | inr v =>
        obtain ⟨v, b, i'⟩ := v
        rw [hx] at hq
        obtain ⟨k1, k2, k3, k4, k5, k6⟩ := hq
        exact ⟨_, rfl, ⟨k1, k2, k3, k4, rfl, hE, upd_s, fun z => absurd (show 5 ≤ K from z) (by omega), fun _ => hot, k5, k6⟩, fun x hx => ⟨f2 _ _ x hx, rfl, (hfr x hx).1, (hfr x hx).2⟩, rfl, rfl⟩
    rcases hc with eK | eK | eK | eK | eK | eK | eK
    · rw [eK, if_neg (show ¬ nI 0 = (1 : Int32) by decide), hin, if_neg (show ¬ nI 0 = (4 : Int32) by decide), hin, if_neg (show ¬ (4 : Int32) ≤ nI 0 by decide), if_neg (by decide), if_pos (by decide)]
      exact one 0 (by omega)
    · rw [eK, if_pos (show nI 1 = (1 : Int32) by decide), if_pos (by decide)]
      unfold f_X12_readSaying_b225
      rw [hin, nI_clamp (show r < 2 ^ 31 by omega), upd_s, if_pos (show nI 1 = (1 : Int32) by decide)]
      exact two 1 true (by omega)
    · rw [eK, if_neg (show ¬ nI 2 = (1 : Int32) by decide), hin, if_neg (show ¬ nI 2 = (4 : Int32) by decide), hin, if_neg (show ¬ (4 : Int32) ≤ nI 2 by decide), if_neg (by decide), if_pos (by decide)]
      exact one 2 (by omega)
    · rw [eK, if_neg (show ¬ nI 3 = (1 : Int32) by decide), hin, if_neg (show ¬ nI 3 = (4 : Int32) by decide), hin, if_neg (show ¬ (4 : Int32) ≤ nI 3 by decide), if_neg (by decide), if_pos (by decide)]
      exact one 3 (by omega)
    · rw [eK, if_neg (show ¬ nI 4 = (1 : Int32) by decide), hin, if_pos (show nI 4 = (4 : Int32) by decide), if_pos (by decide)]
      unfold f_X12_readSaying_b225
      rw [hin, nI_clamp (show r < 2 ^ 31 by omega), upd_s, if_neg (show ¬ nI 4 = (1 : Int32) by decide)]
      exact two 4 false (by omega)
    · rw [eK, if_neg (show ¬ nI 5 = (1 : Int32) by decide), hin, if_neg (show ¬ nI 5 = (4 : Int32) by decide), hin, if_pos (show (4 : Int32) ≤ nI 5 by decide), hin, hon, if_neg (by decide), if_neg (by decide), if_pos (by decide)]
      have hhap : ∃ q, f_X12_readHappening (nI n) g.1 g.2.1 g.2.2.1 g.2.2.2.1 ft pl g.2.2.2.2 (nI NL.length) a hp (nI h) = some q ∧ hapR B n L (pHap B n L NL (i + 1) (some h)) NL ft pl q := hap_R hn hB hL hN hE hg ft pl (some h) (fun b hb => by cases hb; exact hh)
      obtain ⟨q, eq, hq⟩ := hhap
      rw [eq]; simp only [bs]
      rw [hin, hin, upd_s]
      cases hx : pHap B n L NL (i + 1) (some h) with
      | inl e =>
        rw [hx] at hq
        obtain ⟨k1, k2, k3, k4, k5⟩ := hq
        rw [if_pos k1]
        exact ⟨_, rfl, err e _ rfl k2 k3 k5, fun x hx => ⟨f2 _ _ x hx, f2 _ _ x hx, rfl, rfl⟩, rfl, rfl⟩
      | inr v =>
        obtain ⟨o, NL', i'⟩ := v
        rw [hx] at hq
        obtain ⟨k1, k2, k3, k4, k5, k6⟩ := hq
        dsimp only at k1 k4 k5 k6
        have hok : i' = i + 1 + 1 ∧ nmsOk NL' ∧ NL <+: NL' ∧ o < NL'.length := by
          rcases hap_ok hL.1 hN hx with z | z
          · exact ⟨z.2.1, z.2.2.1, z.2.2.2.1, z.2.2.2.2.1⟩
          · exact ⟨z.2.1, z.2.2.1, z.2.2.2.1, z.2.2.2.2.1⟩
        obtain ⟨j1, j2, j3, j4⟩ := hok
        have j5 := j2.1
        rw [if_neg (by rw [k1]; exact nI_n1 (by omega)), hin]
        rw [if_neg (show ¬ nI 5 = (6 : Int32) by decide)]
        have hkey : f_X12_isKey q.2.2.2.1 q.2.2.2.2.2.2.2.1 79 = some (ob (decide (tyT B L i' = 2))) := key_R hL k6 (w := 2) (by omega)
        rw [hkey]; simp only [bs]
        show ∃ q, _ ∧ rsR B n L (if True ∧ tyT B L i' = 2 then pb (pSpan B n L (i' + 1) 1 false) (fun p => .inr ((5, h, o, some p.1, p.2.1), NL', p.2.2)) else .inr ((5, h, o, none, none), NL', i')) NL r ft pl q ∧ _
        by_cases h2 : tyT B L i' = 2
        · have hi' := (tok_of h2 (by omega)).1
          rw [decide_eq_true h2, ob_1, if_neg (show ¬ (1 : Int32) = 0 by decide), if_pos (show True ∧ tyT B L i' = 2 from ⟨trivial, h2⟩), k6.2.2.2.2 hi']
          obtain ⟨y, ey, hy⟩ := go_R hn hB hL (show i' + 1 ≤ L.length by omega) q.2.2.1 q.2.2.2.1 q.2.2.2.2.1 q.2.2.2.2.2.2.2.1
          rw [ey]; simp only [bs]
          have hsp : ∃ z, f_X12_readSpan (nI n) y.1 y.2.1 y.2.2.1 y.2.2.2.1 q.2.2.2.2.2.1 q.2.2.2.2.2.2.1 y.2.2.2.2 a lo hi (nI r) 1 0 = some z ∧ spanR B n L (pSpan B n L (i' + 1) 1 false) r q.2.2.2.2.2.1 q.2.2.2.2.2.2.1 z ∧ (z.1 = 0 ∨ z.1 = 1) ∧ ∀ x, x ≠ r → z.2.2.2.2.2.2.2.2.1 x = lo x ∧ z.2.2.2.2.2.2.2.2.2 x = hi x := span_R (least := 1) hn hB hL hy (by omega) q.2.2.2.2.2.1 q.2.2.2.2.2.2.1 lo hi hr84 hhi false
          obtain ⟨z, ez, hz, h01, hfr⟩ := hsp
          rw [ez]; simp only [bs]
          rw [gB_of h01]
          cases hw : pSpan B n L (i' + 1) 1 false with
          | inl e =>
            rw [hw] at hz
            obtain ⟨m1, m2, m3⟩ := hz
            exact ⟨_, rfl, ⟨m1, m2, m3, NL', j3, j2, k5⟩, fun x hx => ⟨f2 _ _ x hx, f2 _ _ x hx, (hfr x hx).1, (hfr x hx).2⟩, rfl, rfl⟩
          | inr v =>
            obtain ⟨v, b, i2⟩ := v
            rw [hw] at hz
            obtain ⟨m1, m2, m3, m4, m5, m6⟩ := hz
            refine ⟨_, rfl, ⟨m1, m2.trans k2, m3.trans k3, m4, k4, k5, upd_s, fun _ => ?_, fun z => absurd (show 5 < 5 from z) (by omega), m5, m6⟩, fun x hx => ⟨f2 _ _ x hx, f2 _ _ x hx, (hfr x hx).1, (hfr x hx).2⟩, rfl, rfl⟩
            show upd ot r q.1 r = nI o
            rw [upd_s, k1]
        · rw [decide_eq_false h2, ob_0, if_pos rfl, if_neg (fun z => h2 z.2)]
          refine ⟨_, rfl, ⟨rfl, k2, k3, k6, k4, k5, upd_s, fun _ => ?_, fun z => absurd (show 5 < 5 from z) (by omega), hlo, hhi⟩, fun x hx => ⟨f2 _ _ x hx, f2 _ _ x hx, rfl, rfl⟩, rfl, rfl⟩
          show upd ot r q.1 r = nI o
          rw [upd_s, k1]
    · rw [eK, if_neg (show ¬ nI 6 = (1 : Int32) by decide), hin, if_neg (show ¬ nI 6 = (4 : Int32) by decide), hin, if_pos (show (4 : Int32) ≤ nI 6 by decide), hin, hon, if_neg (by decide), if_neg (by decide), if_pos (by decide)]
      have hhap : ∃ q, f_X12_readHappening (nI n) g.1 g.2.1 g.2.2.1 g.2.2.2.1 ft pl g.2.2.2.2 (nI NL.length) a hp (nI h) = some q ∧ hapR B n L (pHap B n L NL (i + 1) (some h)) NL ft pl q := hap_R hn hB hL hN hE hg ft pl (some h) (fun b hb => by cases hb; exact hh)
      obtain ⟨q, eq, hq⟩ := hhap
      rw [eq]; simp only [bs]
      rw [hin, hin, upd_s]
      cases hx : pHap B n L NL (i + 1) (some h) with
      | inl e =>
        rw [hx] at hq
        obtain ⟨k1, k2, k3, k4, k5⟩ := hq
        rw [if_pos k1]
        exact ⟨_, rfl, err e _ rfl k2 k3 k5, fun x hx => ⟨f2 _ _ x hx, f2 _ _ x hx, rfl, rfl⟩, rfl, rfl⟩
      | inr v =>
        obtain ⟨o, NL', i'⟩ := v
        rw [hx] at hq
        obtain ⟨k1, k2, k3, k4, k5, k6⟩ := hq
        dsimp only at k1 k4 k5 k6
        have hok : i' = i + 1 + 1 ∧ nmsOk NL' ∧ NL <+: NL' ∧ o < NL'.length := by
          rcases hap_ok hL.1 hN hx with z | z
          · exact ⟨z.2.1, z.2.2.1, z.2.2.2.1, z.2.2.2.2.1⟩
          · exact ⟨z.2.1, z.2.2.1, z.2.2.2.1, z.2.2.2.2.1⟩
        obtain ⟨j1, j2, j3, j4⟩ := hok
        have j5 := j2.1
        rw [if_neg (by rw [k1]; exact nI_n1 (by omega)), hin]
        rw [if_pos (show nI 6 = (6 : Int32) by decide)]
        show ∃ q, _ ∧ rsR B n L (if 6 = 5 ∧ tyT B L i' = 2 then pb (pSpan B n L (i' + 1) 1 false) (fun p => .inr ((6, h, o, some p.1, p.2.1), NL', p.2.2)) else .inr ((6, h, o, none, none), NL', i')) NL r ft pl q ∧ _
        rw [if_neg (fun z => absurd z.1 (by decide))]
        refine ⟨_, rfl, ⟨rfl, k2, k3, k6, k4, k5, upd_s, fun _ => ?_, fun z => absurd (show 6 < 5 from z) (by omega), hlo, hhi⟩, fun x hx => ⟨f2 _ _ x hx, f2 _ _ x hx, rfl, rfl⟩, rfl, rfl⟩
        show upd ot r q.1 r = nI o
        rw [upd_s, k1]
  · rw [if_neg h7, if_pos rfl, bad_1]
    simp only [bs]
    rw [gB_of (Or.inl rfl)]
    have ep : pRest B n L NL h i = .inl (1, stT n L i) := by
      unfold pRest
      rw [if_neg (by omega), if_neg (by omega), if_neg (by omega)]
    rw [ep]
    exact ⟨_, rfl, ⟨rfl, rfl, hr.1, NL, List.prefix_refl _, hN, hE⟩, fun x hx => ⟨f2 _ _ x hx, rfl, rfl, rfl⟩, rfl, rfl⟩
theorem saying_R {a : Nat → Int32} {B : Nat → Nat} {n : Nat} {L : List (Nat × Nat)} (hn : n ≤ 440) (hB : BT a n B) (hL : TKS B n L) {NL : List (List Nat)} (hN : nmsOk NL) {hp : Nat → Int64} (hE : encH hp NL) {i : Nat} {to fr kd nu : Int32} {nm : Int64} (hr : refAt B n L i to fr kd nu nm) (ft pl : Int32) (ma so on ot lo hi bg : Nat → Int32) {r k : Nat} (hr84 : r < 84) (hk : k ≤ 12) (hma : ma 6 = nI k) :
    ∃ q, f_X12_readSaying (nI n) to fr kd nu ft pl nm (nI NL.length) a hp ma so on ot lo hi bg (nI r) = some q ∧
      (tyT B L i = 8 ∧ k = 12 → q.1 = 0 ∧ q.2.2.2.2.2.1 = nI 4 ∧ q.2.2.2.2.2.2.1 = nI (stT n L i) ∧ encH q.2.2.2.2.2.2.2.2.2.1 NL) ∧
      (¬ (tyT B L i = 8 ∧ k = 12) → rsR B n L (pb (pHap B n L NL i none) (fun v => pRest B n L v.2.1 v.1 v.2.2)) NL r ft pl q ∧ (q.1 = 1 → q.2.2.2.2.2.2.2.2.2.2.2.2.2.2.2 r = nI (stT n L i) ∧ ∀ v, pHap B n L NL i none = .inr v → q.2.2.2.2.2.2.2.2.2.2.2.1 r = nI v.1)) ∧
      (∀ x, x ≠ r → q.2.2.2.2.2.2.2.2.2.2.1 x = so x ∧ q.2.2.2.2.2.2.2.2.2.2.2.1 x = on x ∧ q.2.2.2.2.2.2.2.2.2.2.2.2.1 x = ot x ∧ q.2.2.2.2.2.2.2.2.2.2.2.2.2.1 x = lo x ∧ q.2.2.2.2.2.2.2.2.2.2.2.2.2.2.1 x = hi x ∧ q.2.2.2.2.2.2.2.2.2.2.2.2.2.2.2 x = bg x) := by
  have f2 : ∀ (g : Nat → Int32) (k : Int32) (x : Nat), x ≠ r → upd g r k x = g x := fun g k x hx => upd_n hx
  have hin : ∀ (z : Option (Int32 × Int32 × Int32 × Int32 × Int32 × Int32 × Int32 × Int64 × Int32 × (Nat → Int64) × (Nat → Int32) × (Nat → Int32) × (Nat → Int32) × (Nat → Int32) × (Nat → Int32) × (Nat → Int32))), gIn (nI r) 84 z = z := fun z => gIn_of (vp_in_nI hr84 (by omega))
  have hfree := free_R hL hr
  have b25 : ∃ q, f_X12_readSaying_b25 (nI n) to fr kd nu ft pl nm (nI NL.length) a hp ma so on ot lo hi bg (nI r) = some q ∧
      (rsR B n L (pb (pHap B n L NL i none) (fun v => pRest B n L v.2.1 v.1 v.2.2)) NL r ft pl q ∧ (q.1 = 1 → q.2.2.2.2.2.2.2.2.2.2.2.2.2.2.2 r = nI (stT n L i) ∧ ∀ v, pHap B n L NL i none = .inr v → q.2.2.2.2.2.2.2.2.2.2.2.1 r = nI v.1)) ∧
      (∀ x, x ≠ r → q.2.2.2.2.2.2.2.2.2.2.1 x = so x ∧ q.2.2.2.2.2.2.2.2.2.2.2.1 x = on x ∧ q.2.2.2.2.2.2.2.2.2.2.2.2.1 x = ot x ∧ q.2.2.2.2.2.2.2.2.2.2.2.2.2.1 x = lo x ∧ q.2.2.2.2.2.2.2.2.2.2.2.2.2.2.1 x = hi x ∧ q.2.2.2.2.2.2.2.2.2.2.2.2.2.2.2 x = bg x) := by
    unfold f_X12_readSaying_b25
    have hhap : ∃ q, f_X12_readHappening (nI n) to fr kd nu ft pl nm (nI NL.length) a hp (-1) = some q ∧ hapR B n L (pHap B n L NL i none) NL ft pl q := hap_R hn hB hL hN hE hr ft pl none (fun b hb => by cases hb)
    obtain ⟨q, eq, hq⟩ := hhap
    rw [hin, eq]; simp only [bs]
    rw [hin, hin, nI_clamp (show r < 2 ^ 31 by omega), upd_s]
    cases hx : pHap B n L NL i none with
    | inl e =>
      rw [hx] at hq
      obtain ⟨k1, k2, k3, k4, k5⟩ := hq
      rw [if_pos k1]
      exact ⟨_, rfl, ⟨⟨rfl, k2, k3, NL, List.prefix_refl _, hN, k5⟩, fun z => absurd z (show ¬ (0 : Int32) = 1 by decide)⟩, fun x hx => ⟨rfl, f2 _ _ x hx, rfl, rfl, rfl, f2 _ _ x hx⟩⟩
    | inr v =>
      obtain ⟨h, NL', i'⟩ := v
      rw [hx] at hq
      obtain ⟨k1, k2, k3, k4, k5, k6⟩ := hq
      dsimp only at k1 k4 k5 k6
      have hok : i' = i + 1 ∧ nmsOk NL' ∧ NL <+: NL' ∧ h < NL'.length := by
        rcases hap_ok hL.1 hN hx with z | z
        · exact ⟨z.2.1, z.2.2.1, z.2.2.2.1, z.2.2.2.2.1⟩
        · exact ⟨z.2.1, z.2.2.1, z.2.2.2.1, z.2.2.2.2.1⟩
      obtain ⟨j1, j2, j3, j4⟩ := hok
      have j5 := j2.1
      rw [if_neg (by rw [k1]; exact nI_n1 (by omega)), hin, hin, hin]
      obtain ⟨y, ey, hy, hfr, hy1, hy2⟩ := b184_R hn hB hL j2 k5 j4 k6 q.2.2.2.2.2.1 q.2.2.2.2.2.2.1 ma so (upd on r q.1) (upd ot r (-1)) (upd lo r (-1)) (upd hi r (-1)) (upd bg r fr) hr84 (by rw [upd_s, k1]) upd_s upd_s upd_s
      have fin : ∃ y, f_X12_readSaying_b184 (nI n) q.2.1 q.2.2.1 q.2.2.2.1 q.2.2.2.2.1 q.2.2.2.2.2.1 q.2.2.2.2.2.2.1 q.2.2.2.2.2.2.2.1 q.2.2.2.2.2.2.2.2.1 a q.2.2.2.2.2.2.2.2.2 ma so (upd on r q.1) (upd ot r (-1)) (upd lo r (-1)) (upd hi r (-1)) (upd bg r fr) (nI r) (if tyT B L i' < 7 then nI (tyT B L i') else -1) (nI r) = some y ∧
          (rsR B n L (pb (.inr (h, NL', i')) (fun v => pRest B n L v.2.1 v.1 v.2.2)) NL r ft pl y ∧ (y.1 = 1 → y.2.2.2.2.2.2.2.2.2.2.2.2.2.2.2 r = nI (stT n L i) ∧ ∀ v, (Sum.inr (h, NL', i') : Ft ⊕ (Nat × List (List Nat) × Nat)) = .inr v → y.2.2.2.2.2.2.2.2.2.2.2.1 r = nI v.1)) ∧
          (∀ x, x ≠ r → y.2.2.2.2.2.2.2.2.2.2.1 x = so x ∧ y.2.2.2.2.2.2.2.2.2.2.2.1 x = on x ∧ y.2.2.2.2.2.2.2.2.2.2.2.2.1 x = ot x ∧ y.2.2.2.2.2.2.2.2.2.2.2.2.2.1 x = lo x ∧ y.2.2.2.2.2.2.2.2.2.2.2.2.2.2.1 x = hi x ∧ y.2.2.2.2.2.2.2.2.2.2.2.2.2.2.2 x = bg x) := by
        rw [k4]
        refine ⟨y, ey, ⟨?_, fun _ => ⟨by rw [hy2, upd_s]; exact hr.1, fun v hv => by cases hv; rw [hy1, upd_s, k1]⟩⟩, fun x hx => ?_⟩
        · show rsR B n L (pRest B n L NL' h i') NL r ft pl y
          rw [k2, k3] at hy
          cases hz : pRest B n L NL' h i' with
          | inl e =>
            rw [hz] at hy
            obtain ⟨z1, z2, z3, NLz, z4, z5, z6⟩ := hy
            exact ⟨z1, z2, z3, NLz, j3.trans z4, z5, z6⟩
          | inr w => rw [hz] at hy; exact hy
        · obtain ⟨c1, c2, c3, c4⟩ := hfr x hx
          rw [hy1, hy2]
          exact ⟨c1, f2 _ _ x hx, c2.trans (f2 _ _ x hx), c3.trans (f2 _ _ x hx), c4.trans (f2 _ _ x hx), f2 _ _ x hx⟩
      have k_0 : f_X12_isKey q.2.2.2.1 q.2.2.2.2.2.2.2.1 419 = some (ob (decide (tyT B L i' = 0))) := key_R hL k6 (w := 0) (by omega)
      have k_1 : f_X12_isKey q.2.2.2.1 q.2.2.2.2.2.2.2.1 131638 = some (ob (decide (tyT B L i' = 1))) := key_R hL k6 (w := 1) (by omega)
      have k_2 : f_X12_isKey q.2.2.2.1 q.2.2.2.2.2.2.2.1 79 = some (ob (decide (tyT B L i' = 2))) := key_R hL k6 (w := 2) (by omega)
      have k_3 : f_X12_isKey q.2.2.2.1 q.2.2.2.2.2.2.2.1 10284818 = some (ob (decide (tyT B L i' = 3))) := key_R hL k6 (w := 3) (by omega)
      have k_4 : f_X12_isKey q.2.2.2.1 q.2.2.2.2.2.2.2.1 6411385 = some (ob (decide (tyT B L i' = 4))) := key_R hL k6 (w := 4) (by omega)
      have k_5 : f_X12_isKey q.2.2.2.1 q.2.2.2.2.2.2.2.1 31484543 = some (ob (decide (tyT B L i' = 5))) := key_R hL k6 (w := 5) (by omega)
      have k_6 : f_X12_isKey q.2.2.2.1 q.2.2.2.2.2.2.2.1 12387497 = some (ob (decide (tyT B L i' = 6))) := key_R hL k6 (w := 6) (by omega)
      rw [k_0]; simp only [bs]
      by_cases e_0 : tyT B L i' = 0
      · rw [decide_eq_true e_0, ob_1, if_neg (show ¬ (1 : Int32) = 0 by decide)]
        rw [if_pos (by omega), e_0] at fin
        exact fin
      · rw [decide_eq_false e_0, ob_0, if_pos rfl]
        rw [k_1]; simp only [bs]
        by_cases e_1 : tyT B L i' = 1
        · rw [decide_eq_true e_1, ob_1, if_neg (show ¬ (1 : Int32) = 0 by decide)]
          rw [if_pos (by omega), e_1] at fin
          exact fin
        · rw [decide_eq_false e_1, ob_0, if_pos rfl]
          rw [k_2]; simp only [bs]
          by_cases e_2 : tyT B L i' = 2
          · rw [decide_eq_true e_2, ob_1, if_neg (show ¬ (1 : Int32) = 0 by decide)]
            rw [if_pos (by omega), e_2] at fin
            exact fin
          · rw [decide_eq_false e_2, ob_0, if_pos rfl]
            rw [k_3]; simp only [bs]
            by_cases e_3 : tyT B L i' = 3
            · rw [decide_eq_true e_3, ob_1, if_neg (show ¬ (1 : Int32) = 0 by decide)]
              rw [if_pos (by omega), e_3] at fin
              exact fin
            · rw [decide_eq_false e_3, ob_0, if_pos rfl]
              rw [k_4]; simp only [bs]
              by_cases e_4 : tyT B L i' = 4
              · rw [decide_eq_true e_4, ob_1, if_neg (show ¬ (1 : Int32) = 0 by decide)]
                rw [if_pos (by omega), e_4] at fin
                exact fin
              · rw [decide_eq_false e_4, ob_0, if_pos rfl]
                rw [k_5]; simp only [bs]
                by_cases e_5 : tyT B L i' = 5
                · rw [decide_eq_true e_5, ob_1, if_neg (show ¬ (1 : Int32) = 0 by decide)]
                  rw [if_pos (by omega), e_5] at fin
                  exact fin
                · rw [decide_eq_false e_5, ob_0, if_pos rfl]
                  rw [k_6]; simp only [bs]
                  by_cases e_6 : tyT B L i' = 6
                  · rw [decide_eq_true e_6, ob_1, if_neg (show ¬ (1 : Int32) = 0 by decide)]
                    rw [if_pos (by omega), e_6] at fin
                    exact fin
                  · rw [decide_eq_false e_6, ob_0, if_pos rfl]
                    rw [if_neg (by omega)] at fin
                    exact fin
  unfold f_X12_readSaying
  rw [hfree]; simp only [bs]
  by_cases h8 : tyT B L i = 8
  · rw [decide_eq_true h8, ob_1, if_neg (show ¬ (1 : Int32) = 0 by decide), gIn_of (show vp_in 6 7 from vp_in_nI (n := 6) (by omega) (by omega)), show (Int32.toNatClampNeg 6) = 6 from rfl, hma]
    by_cases hk12 : k = 12
    · rw [if_pos (show nI k = (12 : Int32) by rw [hk12]; rfl)]
      have e2 : kd = 2 := by rw [hr.2.1]; exact (kd_eq (c := 2) (by omega)).mpr (kT_2.mpr (by omega))
      rw [bad_k (by rw [e2]; decide)]
      simp only [bs]
      rw [gB_of (Or.inl rfl)]
      exact ⟨_, rfl, fun _ => ⟨rfl, rfl, hr.1, hE⟩, fun z => absurd ⟨h8, hk12⟩ z, fun x _ => ⟨rfl, rfl, rfl, rfl, rfl, rfl⟩⟩
    · rw [if_neg (show ¬ nI k = (12 : Int32) from fun z => hk12 ((nI_eq (b := 12) (by omega) (by omega)).mp z))]
      obtain ⟨q, eq, hq, hfr⟩ := b25
      exact ⟨q, eq, fun z => absurd z.2 hk12, fun _ => hq, hfr⟩
  · rw [decide_eq_false h8, ob_0, if_pos rfl]
    obtain ⟨q, eq, hq, hfr⟩ := b25
    exact ⟨q, eq, fun z => absurd z.1 h8, fun _ => hq, hfr⟩
