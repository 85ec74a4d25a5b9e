/-! the reference reads a text -/
def sayY (so on ot lo hi bg : Nat → Int32) (p : Nat) (s : Sy × Nat) : Prop := sayR so on ot lo hi p s.1 ∧ (s.1.1 < 5 → ot p = -1) ∧ bg p = nI s.2
theorem pb_st {B : Nat → Nat} {n : Nat} {L : List (Nat × Nat)} {β : Type} (x : Ft ⊕ (Nat × List (List Nat) × Nat)) (F : Sy × List (List Nat) × Nat → Ft ⊕ β) : pb x (fun q => pb (pStop B n L (pRest B n L q.2.1 q.1 q.2.2)) F) = pb (pStop B n L (pb x (fun v => pRest B n L v.2.1 v.1 v.2.2))) F := by
  cases x <;> rfl
def frY (so0 on0 ot0 lo0 hi0 bg0 so on ot lo hi bg : Nat → Int32) : Prop := ∀ x, x < 72 → so x = so0 x ∧ on x = on0 x ∧ ot x = ot0 x ∧ lo x = lo0 x ∧ hi x = hi0 x ∧ bg x = bg0 x
def maY (ma0 ma : Nat → Int32) : Prop := ∀ x, x ≠ 6 → ma x = ma0 x
def rnY (B : Nat → Nat) (n : Nat) (L : List (Nat × Nat)) (NL0 : List (List Nat)) (A : List (Sy × Nat)) (NL : List (List Nat)) (ft nh : Int32) (hp : Nat → Int64) (ma so on ot lo hi bg : Nat → Int32) : Prop :=
  ft = 0 ∧ A.length ≤ 12 ∧ nmsOk NL ∧ NL0 <+: NL ∧ nh = nI NL.length ∧ encH hp NL ∧ ma 6 = nI A.length ∧ ∀ j s, A[j]? = some s → sOk NL.length s.1 ∧ sayY so on ot lo hi bg (72 + j) s
def flY (NL0 : List (List Nat)) (R : Ft ⊕ (List (Sy × Nat) × List (List Nat))) (ft pl : Int32) (hp : Nat → Int64) : Prop := ∃ e, R = .inl e ∧ fkO e ∧ ft = nI e.1 ∧ pl = nI e.2 ∧ ∃ NL', NL0 <+: NL' ∧ nmsOk NL' ∧ encH hp NL'
theorem text_R {a : Nat → Int32} {B : Nat → Nat} {n : Nat} {L : List (Nat × Nat)} (hn : n ≤ 440) (hB : BT a n B) (hL : TKS B n L) {NL0 : List (List Nat)} (hN : nmsOk NL0) {hp : Nat → Int64} (hE : encH hp NL0) (to fr kd nu pl : Int32) (nm : Int64) (nh : Int32) (ma so on ot lo hi bg : Nat → Int32) :
    ∃ r, f_X12_readText (nI n) to fr kd nu 0 pl nm (nI NL0.length) nh a hp ma so on ot lo hi bg = some r ∧ maY ma r.2.2.2.2.2.2.2.2.2.2.1 ∧ frY so on ot lo hi bg r.2.2.2.2.2.2.2.2.2.2.2.1 r.2.2.2.2.2.2.2.2.2.2.2.2.1 r.2.2.2.2.2.2.2.2.2.2.2.2.2.1 r.2.2.2.2.2.2.2.2.2.2.2.2.2.2.1 r.2.2.2.2.2.2.2.2.2.2.2.2.2.2.2.1 r.2.2.2.2.2.2.2.2.2.2.2.2.2.2.2.2 ∧
      ((r.1 = 1 ∧ ∃ A NL, pText B n L 13 [] NL0 0 = .inr (A, NL) ∧ rnY B n L NL0 A NL r.2.2.2.2.2.1 r.2.2.2.2.2.2.2.2.1 r.2.2.2.2.2.2.2.2.2.1 r.2.2.2.2.2.2.2.2.2.2.1 r.2.2.2.2.2.2.2.2.2.2.2.1 r.2.2.2.2.2.2.2.2.2.2.2.2.1 r.2.2.2.2.2.2.2.2.2.2.2.2.2.1 r.2.2.2.2.2.2.2.2.2.2.2.2.2.2.1 r.2.2.2.2.2.2.2.2.2.2.2.2.2.2.2.1 r.2.2.2.2.2.2.2.2.2.2.2.2.2.2.2.2) ∨ (r.1 = 0 ∧ flY NL0 (pText B n L 13 [] NL0 0) r.2.2.2.2.2.1 r.2.2.2.2.2.2.1 r.2.2.2.2.2.2.2.2.2.1)) := by
  obtain ⟨g, eg, hg⟩ := go_R hn hB hL (Nat.zero_le _) fr kd nu nm
  have eg : f_X12_go (nI n) 0 fr kd nu nm a = some g := eg
  have h67 : vp_in 6 7 := vp_in_nI (n := 6) (by omega) (by omega)
  have c6 : Int32.toNatClampNeg 6 = 6 := rfl
  obtain ⟨y, ey, hy⟩ := lp_rule (body := f_X12_readText_l25 (nI n) (nI NL0.length) a)
    (fun sg => ∃ A NL i, i ≤ L.length ∧ refAt B n L i sg.1 sg.2.1 sg.2.2.1 sg.2.2.2.1 sg.2.2.2.2.2.2.1 ∧ maY ma sg.2.2.2.2.2.2.2.2.2.1 ∧ frY so on ot lo hi bg sg.2.2.2.2.2.2.2.2.2.2.1 sg.2.2.2.2.2.2.2.2.2.2.2.1 sg.2.2.2.2.2.2.2.2.2.2.2.2.1 sg.2.2.2.2.2.2.2.2.2.2.2.2.2.1 sg.2.2.2.2.2.2.2.2.2.2.2.2.2.2.1 sg.2.2.2.2.2.2.2.2.2.2.2.2.2.2.2 ∧ rnY B n L NL0 A NL sg.2.2.2.2.1 sg.2.2.2.2.2.2.2.1 sg.2.2.2.2.2.2.2.2.1 sg.2.2.2.2.2.2.2.2.2.1 sg.2.2.2.2.2.2.2.2.2.2.1 sg.2.2.2.2.2.2.2.2.2.2.2.1 sg.2.2.2.2.2.2.2.2.2.2.2.2.1 sg.2.2.2.2.2.2.2.2.2.2.2.2.2.1 sg.2.2.2.2.2.2.2.2.2.2.2.2.2.2.1 sg.2.2.2.2.2.2.2.2.2.2.2.2.2.2.2 ∧ pText B n L (13 - A.length) A NL i = pText B n L 13 [] NL0 0)
    (fun sg => 13 - (sg.2.2.2.2.2.2.2.2.2.1 6).toNatClampNeg)
    (fun y => Sum.elim (fun t => maY ma t.2.2.2.2.2.2.2.2.2.1 ∧ frY so on ot lo hi bg t.2.2.2.2.2.2.2.2.2.2.1 t.2.2.2.2.2.2.2.2.2.2.2.1 t.2.2.2.2.2.2.2.2.2.2.2.2.1 t.2.2.2.2.2.2.2.2.2.2.2.2.2.1 t.2.2.2.2.2.2.2.2.2.2.2.2.2.2.1 t.2.2.2.2.2.2.2.2.2.2.2.2.2.2.2 ∧ ∃ A NL, pText B n L 13 [] NL0 0 = .inr (A, NL) ∧ rnY B n L NL0 A NL t.2.2.2.2.1 t.2.2.2.2.2.2.2.1 t.2.2.2.2.2.2.2.2.1 t.2.2.2.2.2.2.2.2.2.1 t.2.2.2.2.2.2.2.2.2.2.1 t.2.2.2.2.2.2.2.2.2.2.2.1 t.2.2.2.2.2.2.2.2.2.2.2.2.1 t.2.2.2.2.2.2.2.2.2.2.2.2.2.1 t.2.2.2.2.2.2.2.2.2.2.2.2.2.2.1 t.2.2.2.2.2.2.2.2.2.2.2.2.2.2.2) (fun r => maY ma r.2.2.2.2.2.2.2.2.2.2.1 ∧ frY so on ot lo hi bg r.2.2.2.2.2.2.2.2.2.2.2.1 r.2.2.2.2.2.2.2.2.2.2.2.2.1 r.2.2.2.2.2.2.2.2.2.2.2.2.2.1 r.2.2.2.2.2.2.2.2.2.2.2.2.2.2.1 r.2.2.2.2.2.2.2.2.2.2.2.2.2.2.2.1 r.2.2.2.2.2.2.2.2.2.2.2.2.2.2.2.2 ∧ r.1 = 0 ∧ flY NL0 (pText B n L 13 [] NL0 0) r.2.2.2.2.2.1 r.2.2.2.2.2.2.1 r.2.2.2.2.2.2.2.2.2.1) y)
    (by
      intro sg hinv
      obtain ⟨A, NL, i, hi', hr, hma, hfr, ⟨eft, hA, hNL, hpre, enh, hEn, em6, hsay⟩, hR⟩ := hinv
      unfold f_X12_readText_l25
      have hkd : sg.2.2.1 = 0 ↔ tyT B L i = 11 ∧ n ≤ 400 := by
        rw [hr.2.1, ← kT_0 (n := n)]
        exact kd_eq (c := 0) (by omega)
      have hR2 := hR
      rw [show 13 - A.length = (12 - A.length) + 1 by omega, pText_st, pb_st] at hR2
      by_cases h0 : sg.2.2.1 = 0
      · rw [if_pos h0]
        rw [if_pos (hkd.mp h0)] at hR2
        exact Or.inr ⟨_, rfl, hma, hfr, A, NL, hR2.symm, eft, hA, hNL, hpre, enh, hEn, em6, hsay⟩
      · rw [if_neg h0, gIn_of h67, c6, em6, enh, eft]
        rw [if_neg (fun z => h0 (hkd.mpr z))] at hR2
        have er : (72 : Int32) + (nI A.length - nI A.length / 12 * 12) = nI (72 + A.length % 12) := by
          rw [show (12 : Int32) = nI 12 from rfl, pk_rem (by omega) (by omega) (by omega), show (72 : Int32) = nI 72 from rfl, nI_add]
        have hr84 : 72 + A.length % 12 < 84 := by omega
        rw [er]
        obtain ⟨q, eq, q1, q2, q3⟩ := saying_R hn hB hL hNL hEn hr 0 sg.2.2.2.2.2.1 sg.2.2.2.2.2.2.2.2.2.1 sg.2.2.2.2.2.2.2.2.2.2.1 sg.2.2.2.2.2.2.2.2.2.2.2.1 sg.2.2.2.2.2.2.2.2.2.2.2.2.1 sg.2.2.2.2.2.2.2.2.2.2.2.2.2.1 sg.2.2.2.2.2.2.2.2.2.2.2.2.2.2.1 sg.2.2.2.2.2.2.2.2.2.2.2.2.2.2.2 hr84 hA em6
        rw [eq]; simp only [bs]
        have fr1 : frY so on ot lo hi bg q.2.2.2.2.2.2.2.2.2.2.1 q.2.2.2.2.2.2.2.2.2.2.2.1 q.2.2.2.2.2.2.2.2.2.2.2.2.1 q.2.2.2.2.2.2.2.2.2.2.2.2.2.1 q.2.2.2.2.2.2.2.2.2.2.2.2.2.2.1 q.2.2.2.2.2.2.2.2.2.2.2.2.2.2.2 := by
          intro x hx
          obtain ⟨a1, a2, a3, a4, a5, a6⟩ := hfr x hx
          obtain ⟨b1, b2, b3, b4, b5, b6⟩ := q3 x (by omega)
          exact ⟨b1.trans a1, b2.trans a2, b3.trans a3, b4.trans a4, b5.trans a5, b6.trans a6⟩
        by_cases hb : tyT B L i = 8 ∧ A.length = 12
        · obtain ⟨g1, g2, g3, g4⟩ := q1 hb
          rw [if_pos hb] at hR2
          rw [if_pos g1]
          exact Or.inr ⟨_, rfl, hma, fr1, rfl, (4, stT n L i), hR2.symm, ⟨by dsimp only; omega, by dsimp only; omega⟩, g2, g3, NL, hpre, hNL, g4⟩
        · rw [if_neg hb] at hR2
          obtain ⟨q4, q5⟩ := q2 hb
          cases hX : pb (pHap B n L NL i none) (fun v => pRest B n L v.2.1 v.1 v.2.2) with
          | inl e =>
            rw [hX] at q4 hR2
            obtain ⟨g1, g2, g3, NL', g4, g5, g6⟩ := q4
            rw [if_pos g1]
            refine Or.inr ⟨_, rfl, hma, fr1, rfl, e, hR2.symm, ?_, g2, g3, NL', hpre.trans g4, g5, g6⟩
            cases hH : pHap B n L NL i none with
            | inl e' => rw [hH] at hX; cases hX; exact hap_ft hH
            | inr v => rw [hH] at hX; exact rest_ft hX
          | inr v =>
            obtain ⟨s, NL2, i2⟩ := v
            rw [hX] at q4 hR2
            obtain ⟨g1, g2, g3, g4, g5, g6, g7, g8, g9, g10, g11⟩ := q4
            dsimp only at g4 g5 g6 g7 g8 g9 g10 g11
            cases hH : pHap B n L NL i none with
            | inl e' => rw [hH] at hX; cases hX
            | inr v =>
              obtain ⟨h, NL1, i1⟩ := v
              rw [hH] at hX
              have hX : pRest B n L NL1 h i1 = .inr (s, NL2, i2) := hX
              have h8 : tyT B L i = 8 := by
                unfold pHap at hH
                by_cases z : tyT B L i = 8
                · exact z
                · rw [if_neg z] at hH; cases hH
              have hA12 : A.length < 12 := by
                rcases Nat.lt_or_ge A.length 12 with z | z
                · exact z
                · exact absurd ⟨h8, by omega⟩ hb
              have emod : A.length % 12 = A.length := Nat.mod_eq_of_lt hA12
              have hok : nmsOk NL1 ∧ NL <+: NL1 ∧ h < NL1.length := by
                rcases hap_ok hL.1 hNL hH with z | z
                · exact ⟨z.2.2.1, z.2.2.2.1, z.2.2.2.2.1⟩
                · exact ⟨z.2.2.1, z.2.2.2.1, z.2.2.2.2.1⟩
              obtain ⟨k3, k5, k6⟩ := hok
              obtain ⟨o1, o2, o3, o4, o5⟩ := rest_ok hL.1 k3 k6 hX
              obtain ⟨c4, c5⟩ := q5 g1
              have c6' : q.2.2.2.2.2.2.2.2.2.2.2.1 (72 + A.length % 12) = nI h := c5 _ hH
              rw [if_neg (by rw [g1]; decide)]
              have hk4 : q.2.2.2.1 = 4 ↔ tyT B L i2 = 10 := by
                rw [g4.2.1, ← kT_4 (n := n)]
                exact kd_eq (c := 4) (by omega)
              have hR3 : pb (if tyT B L i2 = 10 then .inr (s, NL2, i2 + 1) else .inl (1, stT n L i2)) (fun p => pText B n L (12 - A.length) (A ++ [(p.1, stT n L i)]) p.2.1 p.2.2) = pText B n L 13 [] NL0 0 := hR2
              by_cases h10 : tyT B L i2 = 10
              · rw [if_pos h10] at hR3
                have hR4 : pText B n L (12 - A.length) (A ++ [(s, stT n L i)]) NL2 (i2 + 1) = pText B n L 13 [] NL0 0 := hR3
                have hi2 := (tok_of h10 (by omega)).1
                rw [if_pos (hk4.mpr h10), gIn_of h67, gIn_of h67, g4.2.2.2.2 hi2]
                obtain ⟨z, ez, hz⟩ := go_R hn hB hL (show i2 + 1 ≤ L.length by omega) q.2.2.1 q.2.2.2.1 q.2.2.2.2.1 q.2.2.2.2.2.2.2.1
                rw [ez]; simp only [bs]
                have gl := (k5.trans o3).length_le
                refine Or.inl ⟨_, rfl, ⟨A ++ [(s, stT n L i)], NL2, i2 + 1, by omega, hz, ?_, fr1, ⟨g2, by simp; omega, o2, (hpre.trans k5).trans o3, g5, g6, ?_, ?_⟩, ?_⟩, ?_⟩
                · intro x hx
                  show upd sg.2.2.2.2.2.2.2.2.2.1 6 _ x = ma x
                  rw [upd_n hx]; exact hma x hx
                · show upd sg.2.2.2.2.2.2.2.2.2.1 6 (nI A.length + 1) 6 = nI (A ++ [(s, stT n L i)]).length
                  rw [upd_s, nI_1, List.length_append]; rfl
                · intro j s' hj
                  rcases app_get hj with ⟨hj1, hj2⟩ | ⟨hj1, hj2⟩
                  · obtain ⟨u1, ⟨u2, u3, u4, u5, u6⟩, u7, u8⟩ := hsay j s' hj2
                    obtain ⟨b1, b2, b3, b4, b5, b6⟩ := q3 (72 + j) (by omega)
                    exact ⟨sOk_mono u1 gl, ⟨b1.trans u2, b2.trans u3, fun z => b3.trans (u4 z), b4.trans u5, b5.trans u6⟩, fun z => b3.trans (u7 z), b6.trans u8⟩
                  · subst hj2
                    rw [hj1]
                    rw [emod] at g7 g8 g9 g10 g11 c4 c6'
                    exact ⟨o1, ⟨g7, by rw [o5]; exact c6', g8, g10, g11⟩, g9, c4⟩
                · rw [List.length_append]
                  show pText B n L (13 - (A.length + 1)) _ _ _ = _
                  rw [show 13 - (A.length + 1) = 12 - A.length by omega]; exact hR4
                · show 13 - (upd sg.2.2.2.2.2.2.2.2.2.1 6 (nI A.length + 1) 6).toNatClampNeg < _
                  rw [upd_s, nI_1, nI_clamp (by omega), nI_clamp (by omega)]; omega
              · rw [if_neg h10] at hR3
                have hR4 : Sum.inl (1, stT n L i2) = pText B n L 13 [] NL0 0 := hR3
                rw [if_neg (fun z => h10 (hk4.mp z)), bad_1]
                simp only [bs]
                rw [gB_of (Or.inl rfl)]
                exact Or.inr ⟨_, rfl, hma, fr1, rfl, (1, stT n L i2), hR4.symm, ⟨by dsimp only; omega, by dsimp only; omega⟩, rfl, g4.1, NL2, (hpre.trans k5).trans o3, o2, g6⟩)
    gFU (g.1, g.2.1, g.2.2.1, g.2.2.2.1, 0, pl, g.2.2.2.2, nI NL0.length, hp, upd ma 6 0, so, on, ot, lo, hi, bg)
    ⟨[], NL0, 0, Nat.zero_le _, hg, fun x hx => upd_n hx, fun x _ => ⟨rfl, rfl, rfl, rfl, rfl, rfl⟩, ⟨rfl, by simp, hN, List.prefix_refl _, rfl, hE, by show upd ma 6 0 6 = nI 0; rw [upd_s]; rfl, fun j s hj => by simp at hj⟩, rfl⟩ (by show 13 - _ < 100000; omega)
  unfold f_X12_readText
  rw [gIn_of h67, eg]; simp only [bs]
  rw [c6, ey]; simp only [bs]
  cases y with
  | inl t =>
    obtain ⟨h1, h2, A, NL, h3, h4⟩ := hy
    exact ⟨_, rfl, h1, h2, Or.inl ⟨rfl, A, NL, h3, h4⟩⟩
  | inr r =>
    obtain ⟨h1, h2, h3, h4⟩ := hy
    exact ⟨_, rfl, h1, h2, Or.inr ⟨h3, h4⟩⟩
