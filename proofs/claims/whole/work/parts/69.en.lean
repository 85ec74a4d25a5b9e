/-! what the law's entry gives: classes, tokens, texts, statics -/
abbrev enF : List Cond := flatC (Jvm.Cond.and given_1 narrow_1)
abbrev tkC : String := "CaseOrder$Token"
abbrev tkD : String := "LCaseOrder$Token;"
def tkS (i : Nat) : Nat := ([71, 77, 80, 83, 86, 89, 92, 95, 100] : List Nat).getD i 0
def tkLn : List Nat := [2, 4, 2, 5, 5, 6, 5, 2, 0]
abbrev tkStr (i : Nat) : Term := .string tkC (tkS i)
abbrev tkStat (i : Nat) : Term := .static tkC (tkNm.getD i "") tkD
theorem en_ex : ∀ i, i < 13 → Cond.exactly (tkStat i) tkC ∈ enF := by decide +kernel
theorem en_la : ∀ i, i < 13 → Cond.laysStatic tkC (tkNm.getD i "") tkD ∈ lw_tbl := by decide +kernel
theorem en_ki : ∀ i, i < 13 → Cond.eq (.field (tkStat i) tkC "kind" "I") (.int (tkK i)) ∈ enF := by decide +kernel
theorem en_or : ∀ i, i < 13 → Cond.eq (.field (tkStat i) "java/lang/Enum" "ordinal" "I") (.int (tkO i)) ∈ enF := by decide +kernel
theorem en_sp : ∀ i, i < 13 → Cond.eq (.field (tkStat i) tkC "spelling" "Ljava/lang/String;") (tkStr (min i 8)) ∈ enF := by decide +kernel
def en_neT : List (Nat × Nat × Nat) := [(0, 11, 12), (0, 10, 35), (11, 10, 36), (0, 9, 41), (11, 9, 42), (10, 9, 43), (0, 8, 71), (11, 8, 72), (10, 8, 73), (9, 8, 74), (0, 12, 79), (11, 12, 80), (10, 12, 81), (9, 12, 82), (8, 12, 83), (0, 7, 88), (11, 7, 89), (10, 7, 90), (9, 7, 91), (8, 7, 92), (12, 7, 93), (0, 2, 98), (11, 2, 99), (10, 2, 100), (9, 2, 101), (8, 2, 102), (12, 2, 103), (7, 2, 104), (0, 1, 117), (11, 1, 118), (10, 1, 119), (9, 1, 120), (8, 1, 121), (12, 1, 122), (7, 1, 123), (2, 1, 124), (0, 3, 129), (11, 3, 130), (10, 3, 131), (9, 3, 132), (8, 3, 133), (12, 3, 134), (7, 3, 135), (2, 3, 136), (1, 3, 137), (0, 4, 142), (11, 4, 143), (10, 4, 144), (9, 4, 145), (8, 4, 146), (12, 4, 147), (7, 4, 148), (2, 4, 149), (1, 4, 150), (3, 4, 151), (0, 5, 156), (11, 5, 157), (10, 5, 158), (9, 5, 159), (8, 5, 160), (12, 5, 161), (7, 5, 162), (2, 5, 163), (1, 5, 164), (3, 5, 165), (4, 5, 166), (0, 6, 171), (11, 6, 172), (10, 6, 173), (9, 6, 174), (8, 6, 175), (12, 6, 176), (7, 6, 177), (2, 6, 178), (1, 6, 179), (3, 6, 180), (4, 6, 181), (5, 6, 182)]
theorem en_ne_p : ∀ q ∈ en_neT, enF[q.2.2]? = some (Cond.not (.eq (tkStat q.1) (tkStat q.2.1))) := by decide +kernel
theorem en_ne_q : ∀ i, i < 13 → ∀ j, j < 13 → i < j → ∃ q ∈ en_neT, (q.1 = i ∧ q.2.1 = j) ∨ (q.1 = j ∧ q.2.1 = i) := by decide +kernel
theorem en_ne (i : Nat) (hi : i < 13) (j : Nat) (hj : j < 13) (h : i < j) : Cond.not (.eq (tkStat i) (tkStat j)) ∈ enF ∨ Cond.not (.eq (tkStat j) (tkStat i)) ∈ enF := by
  obtain ⟨q, hq, e⟩ := en_ne_q i hi j hj h
  have hm := List.mem_of_getElem? (en_ne_p q hq)
  rcases e with ⟨e1, e2⟩ | ⟨e1, e2⟩
  · rw [e1, e2] at hm; exact Or.inl hm
  · rw [e1, e2] at hm; exact Or.inr hm
theorem en_sx : ∀ i, i < 9 → Cond.exactly (tkStr i) "java/lang/String" ∈ enF := by decide +kernel
theorem en_sc : ∀ i, i < 9 → Cond.eq (.field (tkStr i) "java/lang/String" "coder" "B") (.int 0) ∈ enF := by decide +kernel
theorem en_sa : ∀ i, i < 9 → Cond.arrayOf (.field (tkStr i) "java/lang/String" "value" "[B") .byte ∈ enF := by decide +kernel
theorem en_sl : ∀ i, i < 9 → Cond.eq (.length (.field (tkStr i) "java/lang/String" "value" "[B")) (.int (Int32.ofNat (tkLn.getD i 0))) ∈ enF := by decide +kernel
theorem en_se : ∀ i, i < 9 → ∀ j, j < tkLn.getD i 0 → Cond.eq (.elem (.field (tkStr i) "java/lang/String" "value" "[B") (.int (Int32.ofNat j))) (.int ((strT.getD i []).getD j 0)) ∈ enF := by decide +kernel
def en_snT : List (Nat × Nat × Nat) := [(0, 8, 412), (0, 7, 425), (8, 7, 426), (0, 2, 439), (8, 2, 440), (7, 2, 441), (0, 1, 456), (8, 1, 457), (7, 1, 458), (2, 1, 459), (0, 3, 475), (8, 3, 476), (7, 3, 477), (2, 3, 478), (1, 3, 479), (0, 4, 495), (8, 4, 496), (7, 4, 497), (2, 4, 498), (1, 4, 499), (3, 4, 500), (0, 5, 517), (8, 5, 518), (7, 5, 519), (2, 5, 520), (1, 5, 521), (3, 5, 522), (4, 5, 523), (0, 6, 539), (8, 6, 540), (7, 6, 541), (2, 6, 542), (1, 6, 543), (3, 6, 544), (4, 6, 545), (5, 6, 546)]
theorem en_sn_p : ∀ q ∈ en_snT, enF[q.2.2]? = some (Cond.not (.eq (tkStr q.1) (tkStr q.2.1))) := by decide +kernel
theorem en_sn_q : ∀ i, i < 9 → ∀ j, j < 9 → i < j → ∃ q ∈ en_snT, (q.1 = i ∧ q.2.1 = j) ∨ (q.1 = j ∧ q.2.1 = i) := by decide +kernel
theorem en_sn (i : Nat) (hi : i < 9) (j : Nat) (hj : j < 9) (h : i < j) : Cond.not (.eq (tkStr i) (tkStr j)) ∈ enF ∨ Cond.not (.eq (tkStr j) (tkStr i)) ∈ enF := by
  obtain ⟨q, hq, e⟩ := en_sn_q i hi j hj h
  have hm := List.mem_of_getElem? (en_sn_p q hq)
  rcases e with ⟨e1, e2⟩ | ⟨e1, e2⟩
  · rw [e1, e2] at hm; exact Or.inl hm
  · rw [e1, e2] at hm; exact Or.inr hm
abbrev tkTs : Term := .static "CaseOrder" "TOKENS" "[LCaseOrder$Token;"
abbrev swTs : Term := .static "CaseOrder$1" "$SwitchMap$CaseOrder$Token" "[I"
theorem en_ta : Cond.arrayOf tkTs (.object tkC) ∈ enF ∧ Cond.eq (.length tkTs) (.int (Int32.ofNat 13)) ∈ enF ∧ Cond.arrayOf swTs .int ∈ enF ∧ Cond.eq (.length swTs) (.int (Int32.ofNat 13)) ∈ enF := by decide +kernel
theorem en_te : ∀ j, j < 13 → Cond.eq (.elem tkTs (.int (Int32.ofNat j))) (tkStat j) ∈ enF := by decide +kernel
theorem en_we : ∀ j, j < 13 → Cond.eq (.elem swTs (.int (Int32.ofNat j))) (.int (swM j)) ∈ enF := by decide +kernel
theorem en_st : Cond.eq (.static "java/lang/String" "COMPACT_STRINGS" "Z") (.int 1) ∈ enF ∧ Cond.isRef (.static "jdk/internal/util/Preconditions" "SIOOBE_FORMATTER" "Ljava/util/function/BiFunction;") ∈ enF ∧ Cond.isRef (.static Bundle.tN "UNASSIGNED_STACK" Bundle.steD) ∈ enF ∧ Cond.isRef (.static Bundle.tN "SUPPRESSED_SENTINEL" Bundle.listD) ∈ enF ∧ Cond.not (.castable exS exI) ∈ enF := by decide +kernel
theorem en_sl2 : Cond.laysStatic "CaseOrder" "TOKENS" "[LCaseOrder$Token;" ∈ lw_tbl ∧ Cond.laysStatic "CaseOrder$1" "$SwitchMap$CaseOrder$Token" "[I" ∈ lw_tbl ∧ Cond.laysStatic "java/lang/String" "COMPACT_STRINGS" "Z" ∈ lw_tbl ∧ Cond.laysStatic "jdk/internal/util/Preconditions" "SIOOBE_FORMATTER" "Ljava/util/function/BiFunction;" ∈ lw_tbl ∧ Cond.laysStatic Bundle.tN "UNASSIGNED_STACK" Bundle.steD ∈ lw_tbl ∧ Cond.laysStatic Bundle.tN "SUPPRESSED_SENTINEL" Bundle.listD ∈ lw_tbl := by decide +kernel
theorem en_in : Cond.initialized tkC ∈ lw_tbl ∧ Cond.initialized "CaseOrder" ∈ lw_tbl ∧ Cond.initialized "CaseOrder$1" ∈ lw_tbl ∧ Cond.initialized "java/lang/String" ∈ lw_tbl ∧ Cond.initialized "jdk/internal/util/Preconditions" ∈ lw_tbl ∧ Cond.initialized Bundle.tN ∈ lw_tbl ∧ Cond.initialized "CaseOrderModel" ∈ lw_tbl := by decide +kernel
theorem en_nc : ∀ w ∈ nwC, w ∈ lw_tbl ∧ w.onTables = true := by decide +kernel
theorem en_nx : ∀ w ∈ nwX, w ∈ lw_tbl ∧ w.onTables = true := by decide +kernel
theorem en_nn : ∀ w ∈ nwN, w ∈ lw_tbl ∧ w.onTables = true := by decide +kernel
theorem en_ms : ∀ k, k < 6 → Cond.stringRef RX11 (msI k) (msT k) ∈ lw_tbl := by decide +kernel
theorem en_mx : ∀ k, k < 6 → Cond.exactly (.string RX11 (msI k)) "java/lang/String" ∈ enF := by decide +kernel
theorem en_ao : Cond.arrayOver (.object RX8) ∈ lw_tbl ∧ Cond.arrayOver (.object RX6) ∈ lw_tbl ∧ Cond.arrayOver (.object RX9) ∈ lw_tbl := by decide +kernel
theorem en_ac : Cond.arrayClass .byte ∈ lw_tbl ∧ Cond.arrayClass .int ∈ lw_tbl ∧ Cond.arrayClass .boolean ∈ lw_tbl ∧ Cond.arrayClass .long ∈ lw_tbl := by decide +kernel
theorem en_re : ∀ q ∈ stRl, Cond.eq (.static "CaseOrderModel" q.1 "J") (.long q.2) ∈ enF ∧ Cond.laysStatic "CaseOrderModel" q.1 "J" ∈ lw_tbl := by decide +kernel
theorem inW_up {ad : Nat → Nat} {n z : Nat} (had : ∀ k, k < n → z ≤ ad k) (q : Nat) (h : inW ad n q) : z ≤ q := by
  obtain ⟨k, hk, e⟩ := h
  rw [e]; exact had k hk
section EN
variable {args : Array Value} {s : State}
theorem en_R (hts : ∀ w ∈ lw_tbl, w.before args s = true) (hgv : (Jvm.Cond.and given_1 narrow_1).before args s = true) {ad : Nat → Nat} (had : ∀ k, k < 19 → s.heap.size ≤ ad k) : STR ad s s.heap := by
  have hs := flat_of_before _ hgv
  intro q hq
  exact va_Zof (hts _ (en_re q hq).2) (hts _ en_in.2.2.2.2.2.2) (va_eqtl (hs _ (en_re q hq).1)) (fun a ha h => absurd (inW_up had a h) (Nat.not_le.mpr ha))
set_option maxHeartbeats 2000000 in
theorem en_C (hts : ∀ w ∈ lw_tbl, w.before args s = true) (hgv : (Jvm.Cond.and given_1 narrow_1).before args s = true) :
    ∃ (adE adK adV : Nat → Nat) (tkA swA : Nat) (sa : Nat → Nat), (∀ ad : Nat → Nat, (∀ k, k < 124 → s.heap.size ≤ ad k) → STL ad adE adK adV tkA swA sa s s.heap) ∧ STN s.heap.size adE s s.heap := by
  have hs := flat_of_before _ hgv
  have hA : ∀ a : Nat, a < s.heap.size → ¬ (fun q : Nat => s.heap.size ≤ q) a := fun a h => Nat.not_le.mpr h
  have hex : ∀ i, i < tkNm.length → (Cond.exactly (.static tkC (tkNm.getD i "") tkD) tkC).before args s = true := fun i hi => hs _ (en_ex i hi)
  obtain ⟨adE, hE, hev⟩ := va_Enof2 (E := tkC) (d := tkD) (nm := tkNm) (F := []) (A := fun q : Nat => s.heap.size ≤ q) (fun i hi => hts _ (en_la i hi)) (hts _ en_in.1) hex (fun q hq => absurd hq List.not_mem_nil)
    (fun i j hi hj hij => by
      rcases Nat.lt_or_gt_of_ne hij with h | h
      · exact (en_ne i hi j hj h).imp (fun z => hs _ z) (fun z => hs _ z)
      · exact (en_ne j hj i hi h).symm.imp (fun z => hs _ z) (fun z => hs _ z)) hA
  have hev : ∀ i, i < 13 → (Term.static tkC (tkNm.getD i "") tkD).eval args s none [] s = some (.ref (adE i)) := hev
  obtain ⟨adK0, adV0, hK0, hevK⟩ := vk_Sof (N := 9) (tm := tkStr) (len := tkLn) (byt := strT) (A := fun q : Nat => s.heap.size ≤ q) (by decide) (fun i hi => hs _ (en_sx i hi)) (fun i hi => hs _ (en_sc i hi)) (fun i hi => hs _ (en_sa i hi)) (fun i hi => hs _ (en_sl i hi)) (fun i hi j hj => hs _ (en_se i hi j hj))
    (fun i j hi hj hij => by
      rcases Nat.lt_or_gt_of_ne hij with h | h
      · exact (en_sn i hi j hj h).imp (fun z => hs _ z) (fun z => hs _ z)
      · exact (en_sn j hj i hi h).symm.imp (fun z => hs _ z) (fun z => hs _ z)) hA
  have hkd := va_Efof (N := 13) (E := tkC) (d0 := tkD) (o := tkC) (n := "kind") (d := "I") (nm := tkNm) (v := fun i => .int (tkK i)) (tm := fun i => .int (tkK i)) (ad := adE) (A := fun q : Nat => s.heap.size ≤ q) hev (fun i hi => hs _ (en_ki i hi)) (fun i hi => rfl) hA
  have hor := va_Efof (N := 13) (E := tkC) (d0 := tkD) (o := "java/lang/Enum") (n := "ordinal") (d := "I") (nm := tkNm) (v := fun i => .int (tkO i)) (tm := fun i => .int (tkO i)) (ad := adE) (A := fun q : Nat => s.heap.size ≤ q) hev (fun i hi => hs _ (en_or i hi)) (fun i hi => rfl) hA
  have hsp := va_Efof (N := 13) (E := tkC) (d0 := tkD) (o := tkC) (n := "spelling") (d := "Ljava/lang/String;") (nm := tkNm) (v := fun i => .ref (adK0 (min i 8))) (tm := fun i => tkStr (min i 8)) (ad := adE) (A := fun q : Nat => s.heap.size ≤ q) hev (fun i hi => hs _ (en_sp i hi)) (fun i hi => hevK (min i 8) (by omega)) hA
  obtain ⟨tkA, htk, hTk⟩ := va_Tof (tm := tkTs) (ty := .object tkC) (N := 13) (f := fun j => .ref (adE j)) (A := fun q : Nat => s.heap.size ≤ q) (by decide) (hs _ en_ta.1) (va_eqt (hs _ en_ta.2.1)) (fun j hj => va_eqv (hs _ (en_te j hj)) (hev j hj)) hA
  obtain ⟨swA, hsw, hSw⟩ := va_Tof (tm := swTs) (ty := .int) (N := 13) (f := fun j => .int (swM j)) (A := fun q : Nat => s.heap.size ≤ q) (by decide) (hs _ en_ta.2.2.1) (va_eqt (hs _ en_ta.2.2.2)) (fun j hj => va_eqt (hs _ (en_we j hj))) hA
  have hsa : ∀ k : Nat, ∃ a : Nat, k < 6 → (Term.string RX11 (msI k)).eval args s none [] s = some (.ref a) := by
    intro k
    by_cases hk : k < 6
    · obtain ⟨a, c, cell, kk, q1, -⟩ := Cond.exactly_spec (hs _ (en_mx k hk))
      exact ⟨a, fun _ => q1⟩
    · exact ⟨0, fun h => absurd h hk⟩
  obtain ⟨sa, hsa⟩ := Classical.axiomOfChoice hsa
  have hZ : ∀ i, i < 13 → va_Z tkC (tkNm.getD i "") tkD (.ref (adE i)) (fun q : Nat => s.heap.size ≤ q) s s.heap := fun i hi => (hE.1 i hi).1
  have hO : ∀ i, i < 13 → va_O tkC (adE i) (fun q : Nat => s.heap.size ≤ q) s s.heap := fun i hi => (hE.1 i hi).2.1
  refine ⟨adE, fun i => adK0 (min i 8), fun i => adV0 (min i 8), tkA, swA, sa, fun ad had => ?_, ?_⟩
  · have up := inW_up had
    refine ⟨⟨⟨?_, ?_, fun i j hi hj e => hE.2 i j hi hj e, ⟨(va_Zref (hts _ en_sl2.1) (hts _ en_in.2.1) htk hA).narrow up, hTk.narrow up⟩, ⟨(va_Zref (hts _ en_sl2.2.1) (hts _ en_in.2.2.1) hsw hA).narrow up, hSw.narrow up⟩, (va_Zof (hts _ en_sl2.2.2.1) (hts _ en_in.2.2.2.1) (va_eqt (hs _ en_st.1)) hA).narrow up, (va_Zqof (hts _ en_sl2.2.2.2.1) (hts _ en_in.2.2.2.2.1) (hs _ en_st.2.1) hA).narrow up, fun w hw => va_Nw.of (en_nc w hw).2 (hts _ (en_nc w hw).1)⟩, fun w hw => va_Nw.of (en_nx w hw).2 (hts _ (en_nx w hw).1), fun k hk => vk_R.of (hts _ (en_ms k hk)) (hsa k hk), (vx_Zqof (hts _ en_sl2.2.2.2.2.1) (hts _ en_in.2.2.2.2.2.1) (hs _ en_st.2.2.1) hA).narrow up, (vx_Zqof (hts _ en_sl2.2.2.2.2.2) (hts _ en_in.2.2.2.2.2.1) (hs _ en_st.2.2.2.1) hA).narrow up⟩, va_Nc.of (hs _ en_st.2.2.2.2)⟩
    · exact fun i hi => ⟨(hZ i hi).narrow up, (hO i hi).narrow up, (hkd i hi).narrow up, (hor i hi).narrow up, (hsp i hi).narrow up⟩
    · intro i hi
      obtain ⟨a, b, c, d⟩ := hK0.1 (min i 8) (by omega)
      refine ⟨a.narrow up, b.narrow up, c.narrow up, ?_⟩
      have e1 : strN i = tkLn.getD (min i 8) 0 := (show ∀ i, i < 13 → strN i = tkLn.getD (min i 8) 0 by decide) i hi
      have e2 : strT.getD i [] = strT.getD (min i 8) [] := (show ∀ i, i < 13 → strT.getD i [] = strT.getD (min i 8) [] by decide) i hi
      rw [e1]
      have e3 : (fun j => Value.int (strB i j)) = fun j => Value.int ((strT.getD (min i 8) []).getD j 0) := by
        funext j
        unfold strB
        rw [e2]
      rw [e3]
      exact d.narrow up
  · exact ⟨hZ 0 (by omega), hZ 11 (by omega), hO 11 (by omega), fun w hw => va_Nw.of (en_nn w hw).2 (hts _ (en_nn w hw).1), va_AO.of (hts _ en_ao.1), va_AO.of (hts _ en_ao.2.1), va_AO.of (hts _ en_ao.2.2)⟩
theorem en_pr {ty : FieldType} (h : (Cond.arrayClass ty).before args s = true) (hr : ∀ cA, s.vm.findClass ("[" ++ ty.toString) = some cA → va_RA s cA ty) : ∃ cA : ClassId, ArrOfT s cA ty ∧ va_RA s cA ty := by
  obtain ⟨cA, kA, comp, h1, h2, h3⟩ := Cond.arrayClass_spec h
  exact ⟨cA, fun n z => ⟨fun k h => (by cases h), kA, h2, comp, h3⟩, hr cA h1⟩
theorem en_ob {C : String} (h : (Cond.arrayOver (.object C)).before args s = true) : ∃ cA : ClassId, ArrOfT s cA (.object C) ∧ va_RA s cA (.object C) := by
  obtain ⟨comp, c, k, h1, h2, h3, h4, h5⟩ := Cond.arrayOver_spec h
  exact ⟨c, fun n z => ⟨fun k h => (by cases h), k, h3, comp, h4⟩, k, comp, h3, h4, h1, h5⟩
theorem en_K (hts : ∀ w ∈ lw_tbl, w.before args s = true) : ∃ (D : va_G) (y : Nat → ClassId), va_K D vwCl (tyL y) s := by
  obtain ⟨c0, i0, k0⟩ := u_known (C := RX1) (T := TX1) (N := 13) (n := 13) hts inX1 (hts (.instantiable RX1 13) (by decide +kernel))
  obtain ⟨c1, i1, k1⟩ := u_known (C := RX2) (T := TX2) (N := 5) (n := 5) hts inX2 (hts (.instantiable RX2 5) (by decide +kernel))
  obtain ⟨c2, i2, k2⟩ := u_known (C := RX3) (T := TX3) (N := 4) (n := 4) hts inX3 (hts (.instantiable RX3 4) (by decide +kernel))
  obtain ⟨c3, i3, k3⟩ := u_known (C := RX4) (T := TX4) (N := 3) (n := 3) hts inX4 (hts (.instantiable RX4 3) (by decide +kernel))
  obtain ⟨c4, i4, k4⟩ := u_known (C := RX5) (T := TX5) (N := 6) (n := 6) hts inX5 (hts (.instantiable RX5 6) (by decide +kernel))
  obtain ⟨c5, i5, k5⟩ := u_known (C := RX6) (T := TX6) (N := 6) (n := 6) hts inX6 (hts (.instantiable RX6 6) (by decide +kernel))
  obtain ⟨c6, i6, k6⟩ := u_known (C := RX7) (T := TX7) (N := 2) (n := 2) hts inX7 (hts (.instantiable RX7 2) (by decide +kernel))
  obtain ⟨c7, i7, k7⟩ := u_known (C := RX8) (T := TX8) (N := 2) (n := 2) hts inX8 (hts (.instantiable RX8 2) (by decide +kernel))
  obtain ⟨c8, i8, k8⟩ := u_known (C := RX10) (T := TX10) (N := 4) (n := 4) hts inX10 (hts (.instantiable RX10 4) (by decide +kernel))
  obtain ⟨c9, i9, k9⟩ := u_known (C := RX11) (T := TX11) (N := 7) (n := 7) hts inX11 (hts (.instantiable RX11 7) (by decide +kernel))
  obtain ⟨c10, i10, k10⟩ := u_known (C := RX12) (T := TX12) (N := 33) (n := 33) hts inX12 (hts (.instantiable RX12 33) (by decide +kernel))
  obtain ⟨y0, a0⟩ := en_pr (hts _ en_ac.1) (fun _ h => h)
  obtain ⟨y1, a1⟩ := en_pr (hts _ en_ac.2.1) (fun _ h => h)
  obtain ⟨y2, a2⟩ := en_pr (hts _ en_ac.2.2.1) (fun _ h => h)
  obtain ⟨y3, a3⟩ := en_pr (hts _ en_ac.2.2.2) (fun _ h => h)
  obtain ⟨y4, a4⟩ := en_ob (hts _ en_ao.1)
  obtain ⟨y5, a5⟩ := en_ob (hts _ en_ao.2.1)
  obtain ⟨y6, a6⟩ := en_ob (hts _ en_ao.2.2)
  refine ⟨(fun k => [c0, c1, c2, c3, c4, c5, c6, c7, c8, c9, c10].getD k c0, fun k => [i0, i1, i2, i3, i4, i5, i6, i7, i8, i9, i10].getD k i0), fun k => [y0, y1, y2, y3, y4, y5, y6].getD k y0, fun c q hq => ?_, fun k q hq => ?_⟩
  · match c, hq with
    | 0, hq => cases hq; exact k0
    | 1, hq => cases hq; exact k1
    | 2, hq => cases hq; exact k2
    | 3, hq => cases hq; exact k3
    | 4, hq => cases hq; exact k4
    | 5, hq => cases hq; exact k5
    | 6, hq => cases hq; exact k6
    | 7, hq => cases hq; exact k7
    | 8, hq => cases hq; exact k8
    | 9, hq => cases hq; exact k9
    | 10, hq => cases hq; exact k10
    | c + 11, hq => simp [vwCl] at hq
  · match k, hq with
    | 0, hq => cases hq; exact a0
    | 1, hq => cases hq; exact a1
    | 2, hq => cases hq; exact a2
    | 3, hq => cases hq; exact a3
    | 4, hq => cases hq; exact a4
    | 5, hq => cases hq; exact a5
    | 6, hq => cases hq; exact a6
    | k + 7, hq => simp [tyL] at hq
end EN
