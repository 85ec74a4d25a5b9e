/-! the class reads a whole text -/
def sayX (w : Nat → Nat) (ow ot fs sn pc : Nat → Int32) (p : Nat) (s : Sy × Nat) : Prop := sayC w ow ot fs sn p s.1 ∧ (s.1.1 < 5 → ot p = -1) ∧ pc p = nI s.2
theorem pText_st {B : Nat → Nat} {n : Nat} {L : List (Nat × Nat)} {f : Nat} {A : List (Sy × Nat)} {NL : List (List Nat)} {i : Nat} : pText B n L (f + 1) A NL i = if tyT B L i = 11 ∧ n ≤ 400 then .inr (A, NL) else if tyT B L i = 8 ∧ A.length = 12 then .inl (4, stT n L i) else pb (pHap B n L NL i none) (fun q => pb (pStop B n L (pRest B n L q.2.1 q.1 q.2.2)) (fun p => pText B n L f (A ++ [(p.1, stT n L i)]) p.2.1 p.2.2)) := rfl
def flt (NL0 : List (List Nat)) (R : Ft ⊕ (List (Sy × Nat) × List (List Nat))) (dr fk fp : Int32) (le nl : Nat → Int32) : Prop := ∃ e, R = .inl e ∧ fkO e ∧ fk = nI e.1 ∧ fp = nI e.2 ∧ ∃ NL', NL0 <+: NL' ∧ nmsOk NL' ∧ dr = nI NL'.length ∧ encN le nl NL'
def rnI (B : Nat → Nat) (n : Nat) (L : List (Nat × Nat)) (NL0 : List (List Nat)) (R : Ft ⊕ (List (Sy × Nat) × List (List Nat))) (u k : Nat) (A : List (Sy × Nat)) (NL : List (List Nat)) (i : Nat) (dr he : Int32) (le nl tz : Nat → Int32) (w : Nat → Nat) (ow ot fs sn pc : Nat → Int32) : Prop :=
  A.length = k ∧ i ≤ L.length ∧ he = nI i ∧ nmsOk NL ∧ NL0 <+: NL ∧ dr = nI NL.length ∧ encN le nl NL ∧ tz u = nI k ∧ (∀ j s, A[j]? = some s → sOk NL.length s.1 ∧ sayX w ow ot fs sn pc (12 * u + j) s) ∧ pText B n L (13 - k) A NL i = R
def frX (u : Nat) (tz0 : Nat → Int32) (w0 : Nat → Nat) (ow0 ot0 fs0 sn0 pc0 : Nat → Int32) (tz : Nat → Int32) (w : Nat → Nat) (ow ot fs sn pc : Nat → Int32) : Prop :=
  (∀ x, x ≠ u → tz x = tz0 x) ∧ ∀ x, (x < 12 * u ∨ 12 * u + 12 ≤ x) → w x = w0 x ∧ ow x = ow0 x ∧ ot x = ot0 x ∧ fs x = fs0 x ∧ sn x = sn0 x ∧ pc x = pc0 x
theorem loop_C {a : Nat → Int32} {B : Nat → Nat} {n : Nat} {L : List (Nat × Nat)} {ty : Nat → Nat} {st ln : Nat → Int32} (hn : n ≤ 440) (hB : BY a n B) (hL : TKS B n L) (hT : encT B n L ty st ln) {NL0 : List (List Nat)} (hN : nmsOk NL0) {le nl : Nat → Int32} (hE : encN le nl NL0) (ns mt fp : Int32) (tz : Nat → Int32) (w : Nat → Nat) (ow ot fs sn pc : Nat → Int32) {u : Nat} (hu : u < 7) :
    ∃ q, lp (f_X5_read_l28 (nI n) a ns mt ty st ln u) gFU (0, nI NL0.length, le, nl, 0, 0, fp, upd tz u 0, w, ow, ot, fs, sn, pc) = some q ∧
      frX u tz w ow ot fs sn pc q.2.2.2.2.2.2.2.1 q.2.2.2.2.2.2.2.2.1 q.2.2.2.2.2.2.2.2.2.1 q.2.2.2.2.2.2.2.2.2.2.1 q.2.2.2.2.2.2.2.2.2.2.2.1 q.2.2.2.2.2.2.2.2.2.2.2.2.1 q.2.2.2.2.2.2.2.2.2.2.2.2.2 ∧
      ((q.2.2.2.2.2.1 = 0 ∧ ∃ k A NL i, k ≤ 12 ∧ tyT B L i = 11 ∧ rnI B n L NL0 (pText B n L 13 [] NL0 0) u k A NL i q.2.1 q.2.2.2.2.1 q.2.2.1 q.2.2.2.1 q.2.2.2.2.2.2.2.1 q.2.2.2.2.2.2.2.2.1 q.2.2.2.2.2.2.2.2.2.1 q.2.2.2.2.2.2.2.2.2.2.1 q.2.2.2.2.2.2.2.2.2.2.2.1 q.2.2.2.2.2.2.2.2.2.2.2.2.1 q.2.2.2.2.2.2.2.2.2.2.2.2.2) ∨
       flt NL0 (pText B n L 13 [] NL0 0) q.2.1 q.2.2.2.2.2.1 q.2.2.2.2.2.2.1 q.2.2.1 q.2.2.2.1) := by
  refine lp_rule (body := f_X5_read_l28 (nI n) a ns mt ty st ln u)
    (fun sg => ∃ k : Nat, k ≤ 13 ∧ sg.1 = nI k ∧ frX u tz w ow ot fs sn pc sg.2.2.2.2.2.2.2.1 sg.2.2.2.2.2.2.2.2.1 sg.2.2.2.2.2.2.2.2.2.1 sg.2.2.2.2.2.2.2.2.2.2.1 sg.2.2.2.2.2.2.2.2.2.2.2.1 sg.2.2.2.2.2.2.2.2.2.2.2.2.1 sg.2.2.2.2.2.2.2.2.2.2.2.2.2 ∧
      ((sg.2.2.2.2.2.1 = 0 ∧ k ≤ 12 ∧ ∃ A NL i, rnI B n L NL0 (pText B n L 13 [] NL0 0) u k A NL i sg.2.1 sg.2.2.2.2.1 sg.2.2.1 sg.2.2.2.1 sg.2.2.2.2.2.2.2.1 sg.2.2.2.2.2.2.2.2.1 sg.2.2.2.2.2.2.2.2.2.1 sg.2.2.2.2.2.2.2.2.2.2.1 sg.2.2.2.2.2.2.2.2.2.2.2.1 sg.2.2.2.2.2.2.2.2.2.2.2.2.1 sg.2.2.2.2.2.2.2.2.2.2.2.2.2) ∨
       flt NL0 (pText B n L 13 [] NL0 0) sg.2.1 sg.2.2.2.2.2.1 sg.2.2.2.2.2.2.1 sg.2.2.1 sg.2.2.2.1))
    (fun sg => 13 - sg.1.toNatClampNeg) _ ?_ gFU (0, nI NL0.length, le, nl, 0, 0, fp, upd tz u 0, w, ow, ot, fs, sn, pc)
    ⟨0, by omega, nI_0.symm, ⟨fun x hx => upd_n hx, fun x _ => ⟨rfl, rfl, rfl, rfl, rfl, rfl⟩⟩, Or.inl ⟨rfl, by omega, [], NL0, 0, rfl, Nat.zero_le _, nI_0.symm, hN, List.prefix_refl _, rfl, hE, by rw [nI_0]; exact upd_s, fun j s hj => by simp at hj, rfl⟩⟩ (by show 13 - (0 : Int32).toNatClampNeg < 100000; omega)
  intro sg hinv
  obtain ⟨k, hk, ek, ⟨hf1, hf2⟩, hcase⟩ := hinv
  unfold f_X5_read_l28
  rw [ek]
  rcases hcase with ⟨efk, hk12, A, NL, i, hA, hi, ehe, hNL, hpre, edr, hEn, etz, hsay, hR⟩ | hflt
  · rw [if_neg (show ¬ (12 : Int32) < nI k from nI_nlt (a := 12) (b := k) hk12 (by omega)), efk, if_pos rfl, ehe, edr, is_C hL hT hi (by omega)]
    simp only [bs]
    have e13 : 13 - k = (12 - k) + 1 := by omega
    have hR2 := hR
    rw [e13, pText_st, hA] at hR2
    have mes : 13 - (nI k + 1).toNatClampNeg < 13 - (nI k).toNatClampNeg := by rw [nI_1, nI_clamp (by omega), nI_clamp (by omega)]; omega
    by_cases h11 : tyT B L i = 11
    · rw [decide_eq_true h11, ob_1, if_neg (show ¬ (1 : Int32) = 0 by decide)]
      exact Or.inr ⟨_, rfl, ⟨hf1, hf2⟩, Or.inl ⟨rfl, k, A, NL, i, hk12, h11, hA, hi, rfl, hNL, hpre, rfl, hEn, etz, hsay, hR⟩⟩
    · rw [decide_eq_false h11, ob_0, if_pos rfl]
      rw [if_neg (fun z => h11 z.1)] at hR2
      obtain ⟨q, eq, q1, q2, q3, q4⟩ := begin_C hn hB hL hT hi hNL hEn 0 sg.2.2.2.2.2.2.1 sg.2.2.2.2.2.2.2.2.2.1 sg.2.2.2.2.2.2.2.2.2.2.1 sg.2.2.2.2.2.2.2.2.2.2.2.1 sg.2.2.2.2.2.2.2.2.2.2.2.2.1 sg.2.2.2.2.2.2.2.2.2.2.2.2.2 hk12 hu
      rw [eq]; simp only [bs]
      have frq : ∀ x, (x < 12 * u ∨ 12 * u + 12 ≤ x) → q.2.2.2.2.2.2.2.1 x = sg.2.2.2.2.2.2.2.2.2.1 x ∧ q.2.2.2.2.2.2.2.2.1 x = sg.2.2.2.2.2.2.2.2.2.2.1 x ∧ q.2.2.2.2.2.2.2.2.2.1 x = sg.2.2.2.2.2.2.2.2.2.2.2.1 x ∧ q.2.2.2.2.2.2.2.2.2.2.1 x = sg.2.2.2.2.2.2.2.2.2.2.2.2.1 x ∧ q.2.2.2.2.2.2.2.2.2.2.2 x = sg.2.2.2.2.2.2.2.2.2.2.2.2.2 x := by
        intro x hx
        by_cases hq0 : q.1 = 0
        · exact q3 x (Or.inr hq0)
        · have hq1 := q4.resolve_left hq0
          refine q3 x (Or.inl ?_)
          by_cases hb : tyT B L i = 8 ∧ k = 12
          · exact absurd (q1 hb).1 hq0
          · have := ((q2 hb).2 hq1).1
            omega
      have fr1 : ∀ x, (x < 12 * u ∨ 12 * u + 12 ≤ x) → sg.2.2.2.2.2.2.2.2.1 x = w x ∧ q.2.2.2.2.2.2.2.1 x = ow x ∧ q.2.2.2.2.2.2.2.2.1 x = ot x ∧ q.2.2.2.2.2.2.2.2.2.1 x = fs x ∧ q.2.2.2.2.2.2.2.2.2.2.1 x = sn x ∧ q.2.2.2.2.2.2.2.2.2.2.2 x = pc x := by
        intro x hx
        obtain ⟨a1, a2, a3, a4, a5, a6⟩ := hf2 x hx
        obtain ⟨b2, b3, b4, b5, b6⟩ := frq x hx
        exact ⟨a1, b2.trans a2, b3.trans a3, b4.trans a4, b5.trans a5, b6.trans a6⟩
      by_cases hb : tyT B L i = 8 ∧ k = 12
      · obtain ⟨g1, g2, g3, g5, g6⟩ := q1 hb
        rw [if_pos g1]
        rw [if_pos hb] at hR2
        exact Or.inl ⟨_, rfl, ⟨k + 1, by omega, by rw [← nI_1], ⟨hf1, fr1⟩, Or.inr ⟨(4, stT n L i), hR2.symm, ⟨by dsimp only; omega, by dsimp only; omega⟩, g5, g6, NL, hpre, hNL, g2, g3⟩⟩, mes⟩
      · rw [if_neg hb] at hR2
        obtain ⟨hh, hh2⟩ := q2 hb
        cases hx : pHap B n L NL i none with
        | inl e =>
          rw [hx] at hh hR2
          obtain ⟨g1, g2, g3, g5, g6⟩ := hh
          rw [if_pos g1]
          exact Or.inl ⟨_, rfl, ⟨k + 1, by omega, by rw [← nI_1], ⟨hf1, fr1⟩, Or.inr ⟨e, hR2.symm, hap_ft hx, g5, g6, NL, hpre, hNL, g2, g3⟩⟩, mes⟩
        | inr v =>
          obtain ⟨h, NL1, i1⟩ := v
          rw [hx] at hh hR2
          obtain ⟨g1, g2, g3, g5, g6, g7, g8⟩ := hh
          dsimp only at g2 g3 g5 g8
          have hR3 : pb (pStop B n L (pRest B n L NL1 h i1)) (fun p => pText B n L (12 - k) (A ++ [(p.1, stT n L i)]) p.2.1 p.2.2) = pText B n L 13 [] NL0 0 := hR2
          obtain ⟨hk11, c1, c2, c3, c4⟩ := hh2 g1
          have hok : i < L.length ∧ i1 = i + 1 ∧ nmsOk NL1 ∧ NL <+: NL1 ∧ h < NL1.length := by
            rcases hap_ok hL.1 hNL hx with z | z
            · exact ⟨z.1, z.2.1, z.2.2.1, z.2.2.2.1, z.2.2.2.2.1⟩
            · exact ⟨z.1, z.2.1, z.2.2.1, z.2.2.2.1, z.2.2.2.2.1⟩
          obtain ⟨k1, k2, k3, k5, k6⟩ := hok
          rw [if_neg (by rw [g1]; decide), gN_of hu, gIn_of (vp_in_nI hk11 (by omega)), nI_clamp (show k < 2 ^ 31 by omega), g2, g5, g6]
          have mes2 : 13 - (nI k + 1).toNatClampNeg < 13 - k := by rw [nI_1, nI_clamp (by omega)]; omega
          obtain ⟨r, er, r1, r2⟩ := rest_C hn hB hL hT (show i1 ≤ L.length by omega) k3 g3 k6 0 q.2.2.2.2.2.2.1 sg.2.2.2.2.2.2.2.2.1 q.2.2.2.2.2.2.2.1 q.2.2.2.2.2.2.2.2.1 q.2.2.2.2.2.2.2.2.2.1 q.2.2.2.2.2.2.2.2.2.2.1 (p := 12 * u + k) (by omega) g8 c1 c2 c3
          rw [er]; simp only [bs]
          have fr2 : ∀ x, (x < 12 * u ∨ 12 * u + 12 ≤ x) → r.2.2.2.2.2.2.2.1 x = w x ∧ q.2.2.2.2.2.2.2.1 x = ow x ∧ r.2.2.2.2.2.2.2.2.1 x = ot x ∧ r.2.2.2.2.2.2.2.2.2.1 x = fs x ∧ r.2.2.2.2.2.2.2.2.2.2 x = sn x ∧ q.2.2.2.2.2.2.2.2.2.2.2 x = pc x := by
            intro x hx
            obtain ⟨a1, a2, a3, a4, a5, a6⟩ := fr1 x hx
            obtain ⟨b1, b2, b3, b4⟩ := r2 x (by omega)
            exact ⟨b1.trans a1, a2, b2.trans a3, b3.trans a4, b4.trans a5, a6⟩
          cases hy : pStop B n L (pRest B n L NL1 h i1) with
          | inl e =>
            rw [hy] at r1 hR3
            obtain ⟨y1, y2, y3, NL', y4, y5, y6, y7⟩ := r1
            rw [if_pos y1]
            exact Or.inl ⟨_, rfl, ⟨k + 1, by omega, by rw [← nI_1], ⟨hf1, fr2⟩, Or.inr ⟨e, hR3.symm, stop_ft (fun e' he' => rest_ft he') hy, y2, y3, NL', (hpre.trans k5).trans y4, y5, y6, y7⟩⟩, mes2⟩
          | inr v =>
            obtain ⟨s, NL2, i2⟩ := v
            rw [hy] at r1 hR3
            obtain ⟨y1, y2, y3, y4, y5, y6, y7, y8, y9, y10⟩ := r1
            dsimp only at y3 y4 y5 y6 y7 y8 y9 y10
            obtain ⟨j2, j3, j4, j5⟩ := stop_ok hy
            dsimp only at j3 j4
            obtain ⟨o1, o2, o3, o4, o5⟩ := rest_ok hL.1 k3 k6 j3
            have hR4 : pText B n L (12 - k) (A ++ [(s, stT n L i)]) NL2 i2 = pText B n L 13 [] NL0 0 := hR3
            have gl := (k5.trans o3).length_le
            rw [if_neg (by rw [y1]; decide), gN_of hu]
            refine Or.inl ⟨_, rfl, ⟨k + 1, by omega, by rw [← nI_1], ⟨fun x hx => ?_, fr2⟩, Or.inl ⟨y2, by omega, A ++ [(s, stT n L i)], NL2, i2, by simp [hA], by omega, y3, o2, (hpre.trans k5).trans o3, y4, y5, ?_, ?_, by rw [show 13 - (k + 1) = 12 - k by omega]; exact hR4⟩⟩, mes2⟩
            · show upd sg.2.2.2.2.2.2.2.1 u (nI k + 1) x = tz x
              rw [upd_n hx]; exact hf1 x hx
            · show upd sg.2.2.2.2.2.2.2.1 u (nI k + 1) u = nI (k + 1)
              rw [upd_s, nI_1]
            · intro j s' hj
              rcases app_get hj with ⟨hj1, hj2⟩ | ⟨hj1, hj2⟩
              · obtain ⟨u1, ⟨u2, u3, u4, u5, u6⟩, u7, u8⟩ := hsay j s' hj2
                have hne : 12 * u + j ≠ 12 * u + k := by omega
                obtain ⟨b2, b3, b4, b5, b6⟩ := q3 (12 * u + j) (Or.inl hne)
                obtain ⟨d1, d2, d3, d4⟩ := r2 (12 * u + j) hne
                refine ⟨sOk_mono u1 gl, ⟨d1.trans u2, b2.trans u3, fun z => (d2.trans b3).trans (u4 z), (d3.trans b4).trans u5, (d4.trans b5).trans u6⟩, fun z => (d2.trans b3).trans (u7 z), b6.trans u8⟩
              · subst hj2
                rw [hj1, hA]
                exact ⟨o1, ⟨y6, by rw [o5]; exact g8, y7, y9, y10⟩, y8, c4⟩
  · obtain ⟨e, h1, h2, h3, h5⟩ := hflt
    have hne : ¬ sg.2.2.2.2.2.1 = 0 := by
      rw [h3]
      obtain ⟨z1, z2⟩ := h2
      exact nI_ne0 (by omega) (by omega)
    by_cases h12 : (12 : Int32) < nI k
    · rw [if_pos h12]
      exact Or.inr ⟨_, rfl, ⟨hf1, hf2⟩, Or.inr ⟨e, h1, h2, h3, h5⟩⟩
    · rw [if_neg h12, if_neg hne]
      exact Or.inr ⟨_, rfl, ⟨hf1, hf2⟩, Or.inr ⟨e, h1, h2, h3, h5⟩⟩
theorem encN_pre {le nl : Nat → Int32} {NL NL' : List (List Nat)} (h : encN le nl NL') (hp : NL <+: NL') : encN le nl NL := by
  intro j l hj
  refine h j l ?_
  obtain ⟨t, rfl⟩ := hp
  rw [List.getElem?_append_left (List.getElem?_eq_some_iff.mp hj).1]; exact hj
theorem read_C {a : Nat → Int32} {B : Nat → Nat} {n : Nat} (hn : n ≤ 440) (hB : BY a n B) {NL0 : List (List Nat)} (hN : nmsOk NL0) {le nl : Nat → Int32} (hE : encN le nl NL0) (he fk fp mt : Int32) (ty : Nat → Nat) (st ln tz : Nat → Int32) (w : Nat → Nat) (ow ot fs sn pc : Nat → Int32) {u : Nat} (hu : u < 7) :
    ∃ q L, f_X5_read (nI n) a (nI NL0.length) (nI NL0.length) le nl he fk fp mt ty st ln tz w ow ot fs sn pc u = some q ∧ TKS B n L ∧
      frX u tz w ow ot fs sn pc q.2.2.2.2.2.2.2.2.2.2.2.2.1 q.2.2.2.2.2.2.2.2.2.2.2.2.2.1 q.2.2.2.2.2.2.2.2.2.2.2.2.2.2.1 q.2.2.2.2.2.2.2.2.2.2.2.2.2.2.2.1 q.2.2.2.2.2.2.2.2.2.2.2.2.2.2.2.2.1 q.2.2.2.2.2.2.2.2.2.2.2.2.2.2.2.2.2.1 q.2.2.2.2.2.2.2.2.2.2.2.2.2.2.2.2.2.2 ∧
      (∀ e, pText B n L 13 [] NL0 0 = .inl e → fkO e ∧ q.1 = 0 ∧ q.2.1 = nI NL0.length ∧ q.2.2.1 = nI NL0.length ∧ encN q.2.2.2.1 q.2.2.2.2.1 NL0 ∧ q.2.2.2.2.2.2.1 = nI e.1 ∧ q.2.2.2.2.2.2.2.1 = nI e.2) ∧
      (∀ A NL, pText B n L 13 [] NL0 0 = .inr (A, NL) → q.1 = 1 ∧ q.2.1 = nI NL.length ∧ q.2.2.1 = nI NL.length ∧ encN q.2.2.2.1 q.2.2.2.2.1 NL ∧ nmsOk NL ∧ NL0 <+: NL ∧ q.2.2.2.2.2.2.1 = 0 ∧ A.length ≤ 12 ∧ q.2.2.2.2.2.2.2.2.2.2.2.2.1 u = nI A.length ∧ ∀ j s, A[j]? = some s → sOk NL.length s.1 ∧ sayX q.2.2.2.2.2.2.2.2.2.2.2.2.2.1 q.2.2.2.2.2.2.2.2.2.2.2.2.2.2.1 q.2.2.2.2.2.2.2.2.2.2.2.2.2.2.2.1 q.2.2.2.2.2.2.2.2.2.2.2.2.2.2.2.2.1 q.2.2.2.2.2.2.2.2.2.2.2.2.2.2.2.2.2.1 q.2.2.2.2.2.2.2.2.2.2.2.2.2.2.2.2.2.2 (12 * u + j) s) := by
  obtain ⟨c, L, ec, hL, hT⟩ := cut_C hn hB mt ty st ln
  obtain ⟨q, eq, hfr, hq⟩ := loop_C hn hB hL hT hN hE (nI NL0.length) c.1 fp tz w ow ot fs sn pc hu
  unfold f_X5_read
  rw [ec]; simp only [bs]
  rw [gN_of hu, eq]; simp only [bs]
  unfold f_X5_read_b86 f_X5_read_b112 f_X5_read_b128 f_X3_settle
  rcases hq with ⟨efk, k, A, NL, i, hk, h11, hA, hi, ehe, hNL, hpre, edr, hEn, etz, hsay, hR⟩ | ⟨e, h1, h2, h3, h5, NL', h6, h7, h8, h9⟩
  · have e13 : 13 - k = (12 - k) + 1 := by omega
    rw [e13, pText_st] at hR
    rw [efk, if_pos rfl]
    by_cases h4 : n ≤ 400
    · rw [if_pos ⟨h11, h4⟩] at hR
      rw [if_pos (show nI n ≤ (400 : Int32) from nI_le (a := n) (b := 400) h4 (by omega)), if_pos rfl]
      rw [if_neg (show ¬ (1 : Int32) = 0 by decide)]
      simp only [bs]
      rw [if_pos trivial]
      refine ⟨_, L, rfl, hL, hfr, fun e he => ?_, fun A' NL2 he => ?_⟩
      · rw [← hR] at he; cases he
      · rw [← hR] at he; cases he
        exact ⟨rfl, edr, edr, hEn, hNL, hpre, rfl, by omega, by rw [hA]; exact etz, hsay⟩
    · rw [if_neg (fun z => h4 z.2), if_neg (fun z => by rw [h11] at z; omega)] at hR
      have hpH : pHap B n L NL i none = .inl (1, stT n L i) := by unfold pHap; rw [if_neg (by omega)]
      rw [hpH] at hR
      have hR : Sum.inl (1, stT n L i) = pText B n L 13 [] NL0 0 := hR
      rw [if_neg (show ¬ nI n ≤ (400 : Int32) from nI_ge (a := 400) (b := n) (by omega) (by omega)), ehe, ref_C hL hT hi]
      simp only [bs]
      rw [if_neg (show ¬ (1 : Int32) = 0 by decide), if_pos trivial]
      simp only [bs]
      rw [if_neg (show ¬ (1 : Int32) = 0 by decide)]
      refine ⟨_, L, rfl, hL, hfr, fun e he => ?_, fun A' NL2 he => ?_⟩
      · rw [← hR] at he; cases he
        exact ⟨⟨by dsimp only; omega, by dsimp only; omega⟩, rfl, rfl, rfl, encN_pre hEn hpre, rfl, rfl⟩
      · rw [← hR] at he; cases he
  · have hne : ¬ q.2.2.2.2.2.1 = 0 := by
      rw [h3]
      obtain ⟨z1, z2⟩ := h2
      exact nI_ne0 (by omega) (by omega)
    rw [if_neg hne, if_neg hne, if_pos rfl]
    simp only [bs]
    rw [if_neg hne]
    refine ⟨_, L, rfl, hL, hfr, fun e' he => ?_, fun A' NL2 he => ?_⟩
    · rw [h1] at he; cases he
      exact ⟨h2, rfl, rfl, rfl, encN_pre h9 h6, h3, h5⟩
    · rw [h1] at he; cases he
