/-! the constructors, walked -/
theorem nz {z b k n : Nat} (hz : z ≤ nA b k) : z ≤ nA b (k + n) := by simp only [nA] at hz ⊢; omega
abbrev rm_X7_init : Room := { frames := 1, cells := 1, slots := 440, locals := 12 }
set_option maxHeartbeats 1000000 in
set_option maxRecDepth 100000 in
theorem k_X7_init {l : Launch} {D : va_G} {y : Nat → ClassId} {z b k : Nat} {adE : Nat → Nat} (hz : z ≤ nA b k) : CTN l yX7_init wsX7_init rm_X7_init D (tyL y) z adE b k (.inr (6, [.null, .int 0])) [.inr (6, [.ref (nA b (k + 1)), .int 0]), .inl (y 0, 440, .inl (fun _ => 0))] [.ref (nA b k)] 1 440 := by
  unfold CTN
  refine Met.ofW (cc := cX7_init) (maxL := 1) (ret := none) (by decide) rfl ?_
  intro p e s m args below meth c s₁ B hml hv
  obtain ⟨rfl, hsz, hP, hK, hst⟩ := hv
  have hx := B.exec
  have hb := B.bytes
  have hr := B.returns
  have hlocks := B.notSynchronized
  have hts := atoms_spec (ws := wsX7_init) B.pre
  have hown : s.vm.findClass RX7 = some m.cls := findClass_of_methodNamed B.named
  have hin : meth.name = "<init>" := (name_of_methodNamed B.named B.method).1
  have i_X7 : ∀ w ∈ u_ws RX7 TX7 2, w ∈ wsX7_init := by decide +kernel
  have L_9 := hts (.fieldLink RX7 9 "CaseOrder$Tape" "bytes" "[B") (by decide +kernel)
  have L_15 := hts (.fieldLink RX7 15 "CaseOrder$Tape" "length" "I") (by decide +kernel)
  have hw : Wo D (nAt b k) (nF b k) [.inr (6, [.null, .int 0])] s.heap s.heap [] := n_start hP
  have hl := lv_entry ([.ref (nA b k)]) (n := 1) (Nat.le_of_ble_eq_true rfl)
  rw [lg_entry_eq]
  generalize (lg_sl ([.ref (nA b k)]) ++ List.replicate (1 - (lg_sl ([.ref (nA b k)])).length) Slot.unset).toArray = ls at hl ⊢
  have hl : lv_has ls 1 [(0, .ref (nA b k))] := hl
  refine lv_aload_n hx hb dX7_init_0 rfl (lv_at hl 0 rfl) ?_
  refine W.objInit hx hb hown (hts (.methodLink RX7 3 objectInit) (by decide +kernel)) (hts (.instanceMethod objectInit) (by decide +kernel)) (hts (.code objectInit ⟨#[0xb1]⟩ 1 none) (List.mem_of_getElem? (i := 3) rfl)) rfl (by rw [hml]; exact hl.1) rfl dX7_init_1 (Nat.le_of_ble_eq_true rfl) (Nat.le_of_ble_eq_true rfl) ?_
  refine W.eq (g2 := F0 m 4 ls []) rfl ?_
  refine lv_aload_n hx hb dX7_init_4 rfl (lv_at hl 0 rfl) ?_
  refine lv_sipush (v := 440) hx hb dX7_init_5 (by decide) ?_
  refine n_newa (atype := .byte) (ty := .byte) (a0 := (440, .inl (fun _ => 0))) (v := 440) hx hb (hts (.arrayClass .byte) (by decide +kernel)) rfl hK 0 rfl (fun h => h) hsz hw 1 rfl (by omega) (fun cA => vp_cell_i cA 440 (fun _ => 0)) (by decide +kernel) (by decide +kernel) (by decide +kernel) (by decide +kernel) (by decide +kernel) dX7_init_8 (fun H hw => ?_)
  have hw : Wo D (nAt b k) (nF b k) [.inr (6, [.null, .int 0]), .inl (y 0, 440, .inl (fun _ => 0))] s.heap H [] := hw
  refine g_putF (ty := .array .byte) (v := .ref (nA b (k + 1))) hx hb hts i_X7 tyX7 tyX7_ok nmX7 hown hK hw 0 rfl rfl 0 (by decide) L_9 (fun _ h => h) rfl hin rfl (by decide +kernel) rfl rfl (Nat.le_of_ble_eq_true rfl) dX7_init_10 (fun H locs hw => ?_)
  have hw : Wo D (nAt b k) (nF b k) [.inr (6, [.ref (nA b (k + 1)), .int 0]), .inl (y 0, 440, .inl (fun _ => 0))] s.heap H locs := hw
  refine lv_aload_n hx hb dX7_init_13 rfl (lv_at hl 0 rfl) ?_
  refine lv_iconst (v := 0) hx hb dX7_init_14 (by decide) ?_
  refine g_put (ty := .int) (v := .int 0) hx hb hts i_X7 tyX7 tyX7_ok nmX7 hown hK hw 0 rfl rfl 1 (by decide) L_15 (fun _ h => h) rfl (by decide +kernel) rfl rfl (Nat.le_of_ble_eq_true rfl) dX7_init_15 (fun H locs hw => ?_)
  have hw : Wo D (nAt b k) (nF b k) [.inr (6, [.ref (nA b (k + 1)), .int 0]), .inl (y 0, 440, .inl (fun _ => 0))] s.heap H locs := hw
  refine W.widen (k := 1) (n := 440) (by omega) (by omega) ?_
  exact W.vret hx hb hr (fun t ht _ => n_end hw t ht) hw.2.2.2.2 dX7_init_18
abbrev rm_X3_init : Room := { frames := 1, cells := 2, slots := 180, locals := 12 }
set_option maxHeartbeats 1000000 in
set_option maxRecDepth 100000 in
theorem k_X3_init {l : Launch} {D : va_G} {y : Nat → ClassId} {z b k : Nat} {adE : Nat → Nat} (hz : z ≤ nA b k) : CTN l yX3_init wsX3_init rm_X3_init D (tyL y) z adE b k (.inr (2, [.null, .null, .int 0, .int 0])) [.inr (2, [.ref (nA b (k + 1)), .ref (nA b (k + 2)), .int 0, .int 0]), .inl (y 0, 160, .inl (fun _ => 0)), .inl (y 1, 20, .inl (fun _ => 0))] [.ref (nA b k)] 2 180 := by
  unfold CTN
  refine Met.ofW (cc := cX3_init) (maxL := 1) (ret := none) (by decide) rfl ?_
  intro p e s m args below meth c s₁ B hml hv
  obtain ⟨rfl, hsz, hP, hK, hst⟩ := hv
  have hx := B.exec
  have hb := B.bytes
  have hr := B.returns
  have hlocks := B.notSynchronized
  have hts := atoms_spec (ws := wsX3_init) B.pre
  have hown : s.vm.findClass RX3 = some m.cls := findClass_of_methodNamed B.named
  have hin : meth.name = "<init>" := (name_of_methodNamed B.named B.method).1
  have i_X3 : ∀ w ∈ u_ws RX3 TX3 4, w ∈ wsX3_init := by decide +kernel
  have L_9 := hts (.fieldLink RX3 9 "CaseOrder$Names" "letters" "[B") (by decide +kernel)
  have L_15 := hts (.fieldLink RX3 15 "CaseOrder$Names" "lengths" "[I") (by decide +kernel)
  have L_19 := hts (.fieldLink RX3 19 "CaseOrder$Names" "size" "I") (by decide +kernel)
  have L_23 := hts (.fieldLink RX3 23 "CaseOrder$Names" "drafted" "I") (by decide +kernel)
  have hw : Wo D (nAt b k) (nF b k) [.inr (2, [.null, .null, .int 0, .int 0])] s.heap s.heap [] := n_start hP
  have hl := lv_entry ([.ref (nA b k)]) (n := 1) (Nat.le_of_ble_eq_true rfl)
  rw [lg_entry_eq]
  generalize (lg_sl ([.ref (nA b k)]) ++ List.replicate (1 - (lg_sl ([.ref (nA b k)])).length) Slot.unset).toArray = ls at hl ⊢
  have hl : lv_has ls 1 [(0, .ref (nA b k))] := hl
  refine lv_aload_n hx hb dX3_init_0 rfl (lv_at hl 0 rfl) ?_
  refine W.objInit hx hb hown (hts (.methodLink RX3 3 objectInit) (by decide +kernel)) (hts (.instanceMethod objectInit) (by decide +kernel)) (hts (.code objectInit ⟨#[0xb1]⟩ 1 none) (List.mem_of_getElem? (i := 3) rfl)) rfl (by rw [hml]; exact hl.1) rfl dX3_init_1 (Nat.le_of_ble_eq_true rfl) (Nat.le_of_ble_eq_true rfl) ?_
  refine W.eq (g2 := F0 m 4 ls []) rfl ?_
  refine lv_aload_n hx hb dX3_init_4 rfl (lv_at hl 0 rfl) ?_
  refine lv_sipush (v := 160) hx hb dX3_init_5 (by decide) ?_
  refine n_newa (atype := .byte) (ty := .byte) (a0 := (160, .inl (fun _ => 0))) (v := 160) hx hb (hts (.arrayClass .byte) (by decide +kernel)) rfl hK 0 rfl (fun h => h) hsz hw 1 rfl (by omega) (fun cA => vp_cell_i cA 160 (fun _ => 0)) (by decide +kernel) (by decide +kernel) (by decide +kernel) (by decide +kernel) (by decide +kernel) dX3_init_8 (fun H hw => ?_)
  have hw : Wo D (nAt b k) (nF b k) [.inr (2, [.null, .null, .int 0, .int 0]), .inl (y 0, 160, .inl (fun _ => 0))] s.heap H [] := hw
  refine g_putF (ty := .array .byte) (v := .ref (nA b (k + 1))) hx hb hts i_X3 tyX3 tyX3_ok nmX3 hown hK hw 0 rfl rfl 0 (by decide) L_9 (fun _ h => h) rfl hin rfl (by decide +kernel) rfl rfl (Nat.le_of_ble_eq_true rfl) dX3_init_10 (fun H locs hw => ?_)
  have hw : Wo D (nAt b k) (nF b k) [.inr (2, [.ref (nA b (k + 1)), .null, .int 0, .int 0]), .inl (y 0, 160, .inl (fun _ => 0))] s.heap H locs := hw
  refine lv_aload_n hx hb dX3_init_13 rfl (lv_at hl 0 rfl) ?_
  refine lv_bipush (v := 20) hx hb dX3_init_14 (by decide) ?_
  refine n_newa (atype := .int) (ty := .int) (a0 := (20, .inl (fun _ => 0))) (v := 20) hx hb (hts (.arrayClass .int) (by decide +kernel)) rfl hK 1 rfl (fun h => h) hsz hw 2 rfl (by omega) (fun cA => vp_cell_i cA 20 (fun _ => 0)) (by decide +kernel) (by decide +kernel) (by decide +kernel) (by decide +kernel) (by decide +kernel) dX3_init_16 (fun H hw => ?_)
  have hw : Wo D (nAt b k) (nF b k) [.inr (2, [.ref (nA b (k + 1)), .null, .int 0, .int 0]), .inl (y 0, 160, .inl (fun _ => 0)), .inl (y 1, 20, .inl (fun _ => 0))] s.heap H locs := hw
  refine g_putF (ty := .array .int) (v := .ref (nA b (k + 2))) hx hb hts i_X3 tyX3 tyX3_ok nmX3 hown hK hw 0 rfl rfl 1 (by decide) L_15 (fun _ h => h) rfl hin rfl (by decide +kernel) rfl rfl (Nat.le_of_ble_eq_true rfl) dX3_init_18 (fun H locs hw => ?_)
  have hw : Wo D (nAt b k) (nF b k) [.inr (2, [.ref (nA b (k + 1)), .ref (nA b (k + 2)), .int 0, .int 0]), .inl (y 0, 160, .inl (fun _ => 0)), .inl (y 1, 20, .inl (fun _ => 0))] s.heap H locs := hw
  refine lv_aload_n hx hb dX3_init_21 rfl (lv_at hl 0 rfl) ?_
  refine lv_iconst (v := 0) hx hb dX3_init_22 (by decide) ?_
  refine g_put (ty := .int) (v := .int 0) hx hb hts i_X3 tyX3 tyX3_ok nmX3 hown hK hw 0 rfl rfl 2 (by decide) L_19 (fun _ h => h) rfl (by decide +kernel) rfl rfl (Nat.le_of_ble_eq_true rfl) dX3_init_23 (fun H locs hw => ?_)
  have hw : Wo D (nAt b k) (nF b k) [.inr (2, [.ref (nA b (k + 1)), .ref (nA b (k + 2)), .int 0, .int 0]), .inl (y 0, 160, .inl (fun _ => 0)), .inl (y 1, 20, .inl (fun _ => 0))] s.heap H locs := hw
  refine lv_aload_n hx hb dX3_init_26 rfl (lv_at hl 0 rfl) ?_
  refine lv_iconst (v := 0) hx hb dX3_init_27 (by decide) ?_
  refine g_put (ty := .int) (v := .int 0) hx hb hts i_X3 tyX3 tyX3_ok nmX3 hown hK hw 0 rfl rfl 3 (by decide) L_23 (fun _ h => h) rfl (by decide +kernel) rfl rfl (Nat.le_of_ble_eq_true rfl) dX3_init_28 (fun H locs hw => ?_)
  have hw : Wo D (nAt b k) (nF b k) [.inr (2, [.ref (nA b (k + 1)), .ref (nA b (k + 2)), .int 0, .int 0]), .inl (y 0, 160, .inl (fun _ => 0)), .inl (y 1, 20, .inl (fun _ => 0))] s.heap H locs := hw
  refine W.widen (k := 2) (n := 180) (by omega) (by omega) ?_
  exact W.vret hx hb hr (fun t ht _ => n_end hw t ht) hw.2.2.2.2 dX3_init_31
abbrev rm_X6_init : Room := { frames := 1, cells := 0, slots := 0, locals := 12 }
set_option maxHeartbeats 1000000 in
set_option maxRecDepth 100000 in
theorem k_X6_init {l : Launch} {D : va_G} {y : Nat → ClassId} {z b k : Nat} {adE : Nat → Nat} (hz : z ≤ nA b k) : CTN l yX6_init wsX6_init rm_X6_init D (tyL y) z adE b k (.inr (5, [.null, .int 0, .int 0, .int 0, .int 0, .int 0])) [.inr (5, [.ref (adE 0), .int (-1), .int (-1), .int (-1), .int (-1), .int 0])] [.ref (nA b k)] 0 0 := by
  unfold CTN
  refine Met.ofW (cc := cX6_init) (maxL := 1) (ret := none) (by decide) rfl ?_
  intro p e s m args below meth c s₁ B hml hv
  obtain ⟨rfl, hsz, hP, hK, hst⟩ := hv
  have hx := B.exec
  have hb := B.bytes
  have hr := B.returns
  have hlocks := B.notSynchronized
  have hts := atoms_spec (ws := wsX6_init) B.pre
  have hown : s.vm.findClass RX6 = some m.cls := findClass_of_methodNamed B.named
  have hin : meth.name = "<init>" := (name_of_methodNamed B.named B.method).1
  have i_X6 : ∀ w ∈ u_ws RX6 TX6 6, w ∈ wsX6_init := by decide +kernel
  have L_9 := hts (.fieldLink RX6 9 "CaseOrder$Token" "ON" "LCaseOrder$Token;") (by decide +kernel)
  have L_15 := hts (.fieldLink RX6 15 "CaseOrder$Saying" "word" "LCaseOrder$Token;") (by decide +kernel)
  have L_20 := hts (.fieldLink RX6 20 "CaseOrder$Saying" "own" "I") (by decide +kernel)
  have L_24 := hts (.fieldLink RX6 24 "CaseOrder$Saying" "other" "I") (by decide +kernel)
  have L_27 := hts (.fieldLink RX6 27 "CaseOrder$Saying" "first" "I") (by decide +kernel)
  have L_30 := hts (.fieldLink RX6 30 "CaseOrder$Saying" "second" "I") (by decide +kernel)
  have L_33 := hts (.fieldLink RX6 33 "CaseOrder$Saying" "place" "I") (by decide +kernel)
  have hw : Wo D (nAt b k) (nF b k) [.inr (5, [.null, .int 0, .int 0, .int 0, .int 0, .int 0])] s.heap s.heap [] := n_start hP
  have hl := lv_entry ([.ref (nA b k)]) (n := 1) (Nat.le_of_ble_eq_true rfl)
  rw [lg_entry_eq]
  generalize (lg_sl ([.ref (nA b k)]) ++ List.replicate (1 - (lg_sl ([.ref (nA b k)])).length) Slot.unset).toArray = ls at hl ⊢
  have hl : lv_has ls 1 [(0, .ref (nA b k))] := hl
  refine lv_aload_n hx hb dX6_init_0 rfl (lv_at hl 0 rfl) ?_
  refine W.objInit hx hb hown (hts (.methodLink RX6 3 objectInit) (by decide +kernel)) (hts (.instanceMethod objectInit) (by decide +kernel)) (hts (.code objectInit ⟨#[0xb1]⟩ 1 none) (List.mem_of_getElem? (i := 3) rfl)) rfl (by rw [hml]; exact hl.1) rfl dX6_init_1 (Nat.le_of_ble_eq_true rfl) (Nat.le_of_ble_eq_true rfl) ?_
  refine W.eq (g2 := F0 m 4 ls []) rfl ?_
  refine lv_aload_n hx hb dX6_init_4 rfl (lv_at hl 0 rfl) ?_
  refine va_gets hx hb (hst.1.narrow (fun q hq => Nat.le_trans hz hq)) hw.2.2 hown L_9 (fun _ h => h) dX6_init_5 ?_
  refine g_put (ty := .object "CaseOrder$Token") (v := .ref (adE 0)) hx hb hts i_X6 tyX6 tyX6_ok nmX6 hown hK hw 0 rfl rfl 0 (by decide) L_15 (fun _ h => h) rfl (by decide +kernel) rfl rfl (Nat.le_of_ble_eq_true rfl) dX6_init_8 (fun H locs hw => ?_)
  have hw : Wo D (nAt b k) (nF b k) [.inr (5, [.ref (adE 0), .int 0, .int 0, .int 0, .int 0, .int 0])] s.heap H locs := hw
  refine lv_aload_n hx hb dX6_init_11 rfl (lv_at hl 0 rfl) ?_
  refine lv_iconst (v := (-1)) hx hb dX6_init_12 (by decide) ?_
  refine g_put (ty := .int) (v := .int (-1)) hx hb hts i_X6 tyX6 tyX6_ok nmX6 hown hK hw 0 rfl rfl 1 (by decide) L_20 (fun _ h => h) rfl (by decide +kernel) rfl rfl (Nat.le_of_ble_eq_true rfl) dX6_init_13 (fun H locs hw => ?_)
  have hw : Wo D (nAt b k) (nF b k) [.inr (5, [.ref (adE 0), .int (-1), .int 0, .int 0, .int 0, .int 0])] s.heap H locs := hw
  refine lv_aload_n hx hb dX6_init_16 rfl (lv_at hl 0 rfl) ?_
  refine lv_iconst (v := (-1)) hx hb dX6_init_17 (by decide) ?_
  refine g_put (ty := .int) (v := .int (-1)) hx hb hts i_X6 tyX6 tyX6_ok nmX6 hown hK hw 0 rfl rfl 2 (by decide) L_24 (fun _ h => h) rfl (by decide +kernel) rfl rfl (Nat.le_of_ble_eq_true rfl) dX6_init_18 (fun H locs hw => ?_)
  have hw : Wo D (nAt b k) (nF b k) [.inr (5, [.ref (adE 0), .int (-1), .int (-1), .int 0, .int 0, .int 0])] s.heap H locs := hw
  refine lv_aload_n hx hb dX6_init_21 rfl (lv_at hl 0 rfl) ?_
  refine lv_iconst (v := (-1)) hx hb dX6_init_22 (by decide) ?_
  refine g_put (ty := .int) (v := .int (-1)) hx hb hts i_X6 tyX6 tyX6_ok nmX6 hown hK hw 0 rfl rfl 3 (by decide) L_27 (fun _ h => h) rfl (by decide +kernel) rfl rfl (Nat.le_of_ble_eq_true rfl) dX6_init_23 (fun H locs hw => ?_)
  have hw : Wo D (nAt b k) (nF b k) [.inr (5, [.ref (adE 0), .int (-1), .int (-1), .int (-1), .int 0, .int 0])] s.heap H locs := hw
  refine lv_aload_n hx hb dX6_init_26 rfl (lv_at hl 0 rfl) ?_
  refine lv_iconst (v := (-1)) hx hb dX6_init_27 (by decide) ?_
  refine g_put (ty := .int) (v := .int (-1)) hx hb hts i_X6 tyX6 tyX6_ok nmX6 hown hK hw 0 rfl rfl 4 (by decide) L_30 (fun _ h => h) rfl (by decide +kernel) rfl rfl (Nat.le_of_ble_eq_true rfl) dX6_init_28 (fun H locs hw => ?_)
  have hw : Wo D (nAt b k) (nF b k) [.inr (5, [.ref (adE 0), .int (-1), .int (-1), .int (-1), .int (-1), .int 0])] s.heap H locs := hw
  refine lv_aload_n hx hb dX6_init_31 rfl (lv_at hl 0 rfl) ?_
  refine lv_iconst (v := 0) hx hb dX6_init_32 (by decide) ?_
  refine g_put (ty := .int) (v := .int 0) hx hb hts i_X6 tyX6 tyX6_ok nmX6 hown hK hw 0 rfl rfl 5 (by decide) L_33 (fun _ h => h) rfl (by decide +kernel) rfl rfl (Nat.le_of_ble_eq_true rfl) dX6_init_33 (fun H locs hw => ?_)
  have hw : Wo D (nAt b k) (nF b k) [.inr (5, [.ref (adE 0), .int (-1), .int (-1), .int (-1), .int (-1), .int 0])] s.heap H locs := hw
  refine W.widen (k := 0) (n := 0) (by omega) (by omega) ?_
  exact W.vret hx hb hr (fun t ht _ => n_end hw t ht) hw.2.2.2.2 dX6_init_36
abbrev rm_X2_init_348 : Room := { frames := 1, cells := 3, slots := 1044, locals := 12 }
set_option maxHeartbeats 1000000 in
set_option maxRecDepth 100000 in
theorem k_X2_init_348 {l : Launch} {D : va_G} {y : Nat → ClassId} {z b k : Nat} {adE : Nat → Nat} (hz : z ≤ nA b k) : CTN l yX2_init wsX2_init rm_X2_init_348 D (tyL y) z adE b k (.inr (1, [.int 0, .null, .null, .null, .int 0])) [.inr (1, [.int 348, .ref (nA b (k + 1)), .ref (nA b (k + 2)), .ref (nA b (k + 3)), .int 0]), .inl (y 1, 348, .inl (fun _ => 0)), .inl (y 1, 348, .inl (fun _ => 0)), .inl (y 1, 348, .inl (fun _ => 0))] [.ref (nA b k), .int 348] 3 1044 := by
  unfold CTN
  refine Met.ofW (cc := cX2_init) (maxL := 2) (ret := none) (by decide) rfl ?_
  intro p e s m args below meth c s₁ B hml hv
  obtain ⟨rfl, hsz, hP, hK, hst⟩ := hv
  have hx := B.exec
  have hb := B.bytes
  have hr := B.returns
  have hlocks := B.notSynchronized
  have hts := atoms_spec (ws := wsX2_init) B.pre
  have hown : s.vm.findClass RX2 = some m.cls := findClass_of_methodNamed B.named
  have hin : meth.name = "<init>" := (name_of_methodNamed B.named B.method).1
  have i_X2 : ∀ w ∈ u_ws RX2 TX2 5, w ∈ wsX2_init := by decide +kernel
  have L_7 := hts (.fieldLink RX2 7 "CaseOrder$Links" "size" "I") (by decide +kernel)
  have L_13 := hts (.fieldLink RX2 13 "CaseOrder$Links" "most" "I") (by decide +kernel)
  have L_16 := hts (.fieldLink RX2 16 "CaseOrder$Links" "tails" "[I") (by decide +kernel)
  have L_20 := hts (.fieldLink RX2 20 "CaseOrder$Links" "heads" "[I") (by decide +kernel)
  have L_23 := hts (.fieldLink RX2 23 "CaseOrder$Links" "gaps" "[I") (by decide +kernel)
  have hw : Wo D (nAt b k) (nF b k) [.inr (1, [.int 0, .null, .null, .null, .int 0])] s.heap s.heap [] := n_start hP
  have hl := lv_entry ([.ref (nA b k), .int 348]) (n := 2) (Nat.le_of_ble_eq_true rfl)
  rw [lg_entry_eq]
  generalize (lg_sl ([.ref (nA b k), .int 348]) ++ List.replicate (2 - (lg_sl ([.ref (nA b k), .int 348])).length) Slot.unset).toArray = ls at hl ⊢
  have hl : lv_has ls 2 [(0, .ref (nA b k)), (1, .int 348)] := hl
  refine lv_aload_n hx hb dX2_init_0 rfl (lv_at hl 0 rfl) ?_
  refine W.objInit hx hb hown (hts (.methodLink RX2 1 objectInit) (by decide +kernel)) (hts (.instanceMethod objectInit) (by decide +kernel)) (hts (.code objectInit ⟨#[0xb1]⟩ 1 none) (List.mem_of_getElem? (i := 3) rfl)) rfl (by rw [hml]; exact hl.1) rfl dX2_init_1 (Nat.le_of_ble_eq_true rfl) (Nat.le_of_ble_eq_true rfl) ?_
  refine W.eq (g2 := F0 m 4 ls []) rfl ?_
  refine lv_aload_n hx hb dX2_init_4 rfl (lv_at hl 0 rfl) ?_
  refine lv_iconst (v := 0) hx hb dX2_init_5 (by decide) ?_
  refine g_put (ty := .int) (v := .int 0) hx hb hts i_X2 tyX2 tyX2_ok nmX2 hown hK hw 0 rfl rfl 4 (by decide) L_7 (fun _ h => h) rfl (by decide +kernel) rfl rfl (Nat.le_of_ble_eq_true rfl) dX2_init_6 (fun H locs hw => ?_)
  have hw : Wo D (nAt b k) (nF b k) [.inr (1, [.int 0, .null, .null, .null, .int 0])] s.heap H locs := hw
  refine lv_aload_n hx hb dX2_init_9 rfl (lv_at hl 0 rfl) ?_
  refine lv_iload_n hx hb dX2_init_10 rfl (lv_at hl 1 rfl) ?_
  refine g_putF (ty := .int) (v := .int 348) hx hb hts i_X2 tyX2 tyX2_ok nmX2 hown hK hw 0 rfl rfl 0 (by decide) L_13 (fun _ h => h) rfl hin rfl (by decide +kernel) rfl rfl (Nat.le_of_ble_eq_true rfl) dX2_init_11 (fun H locs hw => ?_)
  have hw : Wo D (nAt b k) (nF b k) [.inr (1, [.int 348, .null, .null, .null, .int 0])] s.heap H locs := hw
  refine lv_aload_n hx hb dX2_init_14 rfl (lv_at hl 0 rfl) ?_
  refine lv_iload_n hx hb dX2_init_15 rfl (lv_at hl 1 rfl) ?_
  refine n_newa (atype := .int) (ty := .int) (a0 := (348, .inl (fun _ => 0))) (v := 348) hx hb (hts (.arrayClass .int) (by decide +kernel)) rfl hK 1 rfl (fun h => h) hsz hw 1 rfl (by omega) (fun cA => vp_cell_i cA 348 (fun _ => 0)) (by decide +kernel) (by decide +kernel) (by decide +kernel) (by decide +kernel) (by decide +kernel) dX2_init_16 (fun H hw => ?_)
  have hw : Wo D (nAt b k) (nF b k) [.inr (1, [.int 348, .null, .null, .null, .int 0]), .inl (y 1, 348, .inl (fun _ => 0))] s.heap H locs := hw
  refine g_putF (ty := .array .int) (v := .ref (nA b (k + 1))) hx hb hts i_X2 tyX2 tyX2_ok nmX2 hown hK hw 0 rfl rfl 1 (by decide) L_16 (fun _ h => h) rfl hin rfl (by decide +kernel) rfl rfl (Nat.le_of_ble_eq_true rfl) dX2_init_18 (fun H locs hw => ?_)
  have hw : Wo D (nAt b k) (nF b k) [.inr (1, [.int 348, .ref (nA b (k + 1)), .null, .null, .int 0]), .inl (y 1, 348, .inl (fun _ => 0))] s.heap H locs := hw
  refine lv_aload_n hx hb dX2_init_21 rfl (lv_at hl 0 rfl) ?_
  refine lv_iload_n hx hb dX2_init_22 rfl (lv_at hl 1 rfl) ?_
  refine n_newa (atype := .int) (ty := .int) (a0 := (348, .inl (fun _ => 0))) (v := 348) hx hb (hts (.arrayClass .int) (by decide +kernel)) rfl hK 1 rfl (fun h => h) hsz hw 2 rfl (by omega) (fun cA => vp_cell_i cA 348 (fun _ => 0)) (by decide +kernel) (by decide +kernel) (by decide +kernel) (by decide +kernel) (by decide +kernel) dX2_init_23 (fun H hw => ?_)
  have hw : Wo D (nAt b k) (nF b k) [.inr (1, [.int 348, .ref (nA b (k + 1)), .null, .null, .int 0]), .inl (y 1, 348, .inl (fun _ => 0)), .inl (y 1, 348, .inl (fun _ => 0))] s.heap H locs := hw
  refine g_putF (ty := .array .int) (v := .ref (nA b (k + 2))) hx hb hts i_X2 tyX2 tyX2_ok nmX2 hown hK hw 0 rfl rfl 2 (by decide) L_20 (fun _ h => h) rfl hin rfl (by decide +kernel) rfl rfl (Nat.le_of_ble_eq_true rfl) dX2_init_25 (fun H locs hw => ?_)
  have hw : Wo D (nAt b k) (nF b k) [.inr (1, [.int 348, .ref (nA b (k + 1)), .ref (nA b (k + 2)), .null, .int 0]), .inl (y 1, 348, .inl (fun _ => 0)), .inl (y 1, 348, .inl (fun _ => 0))] s.heap H locs := hw
  refine lv_aload_n hx hb dX2_init_28 rfl (lv_at hl 0 rfl) ?_
  refine lv_iload_n hx hb dX2_init_29 rfl (lv_at hl 1 rfl) ?_
  refine n_newa (atype := .int) (ty := .int) (a0 := (348, .inl (fun _ => 0))) (v := 348) hx hb (hts (.arrayClass .int) (by decide +kernel)) rfl hK 1 rfl (fun h => h) hsz hw 3 rfl (by omega) (fun cA => vp_cell_i cA 348 (fun _ => 0)) (by decide +kernel) (by decide +kernel) (by decide +kernel) (by decide +kernel) (by decide +kernel) dX2_init_30 (fun H hw => ?_)
  have hw : Wo D (nAt b k) (nF b k) [.inr (1, [.int 348, .ref (nA b (k + 1)), .ref (nA b (k + 2)), .null, .int 0]), .inl (y 1, 348, .inl (fun _ => 0)), .inl (y 1, 348, .inl (fun _ => 0)), .inl (y 1, 348, .inl (fun _ => 0))] s.heap H locs := hw
  refine g_putF (ty := .array .int) (v := .ref (nA b (k + 3))) hx hb hts i_X2 tyX2 tyX2_ok nmX2 hown hK hw 0 rfl rfl 3 (by decide) L_23 (fun _ h => h) rfl hin rfl (by decide +kernel) rfl rfl (Nat.le_of_ble_eq_true rfl) dX2_init_32 (fun H locs hw => ?_)
  have hw : Wo D (nAt b k) (nF b k) [.inr (1, [.int 348, .ref (nA b (k + 1)), .ref (nA b (k + 2)), .ref (nA b (k + 3)), .int 0]), .inl (y 1, 348, .inl (fun _ => 0)), .inl (y 1, 348, .inl (fun _ => 0)), .inl (y 1, 348, .inl (fun _ => 0))] s.heap H locs := hw
  refine W.widen (k := 3) (n := 1044) (by omega) (by omega) ?_
  exact W.vret hx hb hr (fun t ht _ => n_end hw t ht) hw.2.2.2.2 dX2_init_35
abbrev rm_X2_init_4 : Room := { frames := 1, cells := 3, slots := 12, locals := 12 }
set_option maxHeartbeats 1000000 in
set_option maxRecDepth 100000 in
theorem k_X2_init_4 {l : Launch} {D : va_G} {y : Nat → ClassId} {z b k : Nat} {adE : Nat → Nat} (hz : z ≤ nA b k) : CTN l yX2_init wsX2_init rm_X2_init_4 D (tyL y) z adE b k (.inr (1, [.int 0, .null, .null, .null, .int 0])) [.inr (1, [.int 4, .ref (nA b (k + 1)), .ref (nA b (k + 2)), .ref (nA b (k + 3)), .int 0]), .inl (y 1, 4, .inl (fun _ => 0)), .inl (y 1, 4, .inl (fun _ => 0)), .inl (y 1, 4, .inl (fun _ => 0))] [.ref (nA b k), .int 4] 3 12 := by
  unfold CTN
  refine Met.ofW (cc := cX2_init) (maxL := 2) (ret := none) (by decide) rfl ?_
  intro p e s m args below meth c s₁ B hml hv
  obtain ⟨rfl, hsz, hP, hK, hst⟩ := hv
  have hx := B.exec
  have hb := B.bytes
  have hr := B.returns
  have hlocks := B.notSynchronized
  have hts := atoms_spec (ws := wsX2_init) B.pre
  have hown : s.vm.findClass RX2 = some m.cls := findClass_of_methodNamed B.named
  have hin : meth.name = "<init>" := (name_of_methodNamed B.named B.method).1
  have i_X2 : ∀ w ∈ u_ws RX2 TX2 5, w ∈ wsX2_init := by decide +kernel
  have L_7 := hts (.fieldLink RX2 7 "CaseOrder$Links" "size" "I") (by decide +kernel)
  have L_13 := hts (.fieldLink RX2 13 "CaseOrder$Links" "most" "I") (by decide +kernel)
  have L_16 := hts (.fieldLink RX2 16 "CaseOrder$Links" "tails" "[I") (by decide +kernel)
  have L_20 := hts (.fieldLink RX2 20 "CaseOrder$Links" "heads" "[I") (by decide +kernel)
  have L_23 := hts (.fieldLink RX2 23 "CaseOrder$Links" "gaps" "[I") (by decide +kernel)
  have hw : Wo D (nAt b k) (nF b k) [.inr (1, [.int 0, .null, .null, .null, .int 0])] s.heap s.heap [] := n_start hP
  have hl := lv_entry ([.ref (nA b k), .int 4]) (n := 2) (Nat.le_of_ble_eq_true rfl)
  rw [lg_entry_eq]
  generalize (lg_sl ([.ref (nA b k), .int 4]) ++ List.replicate (2 - (lg_sl ([.ref (nA b k), .int 4])).length) Slot.unset).toArray = ls at hl ⊢
  have hl : lv_has ls 2 [(0, .ref (nA b k)), (1, .int 4)] := hl
  refine lv_aload_n hx hb dX2_init_0 rfl (lv_at hl 0 rfl) ?_
  refine W.objInit hx hb hown (hts (.methodLink RX2 1 objectInit) (by decide +kernel)) (hts (.instanceMethod objectInit) (by decide +kernel)) (hts (.code objectInit ⟨#[0xb1]⟩ 1 none) (List.mem_of_getElem? (i := 3) rfl)) rfl (by rw [hml]; exact hl.1) rfl dX2_init_1 (Nat.le_of_ble_eq_true rfl) (Nat.le_of_ble_eq_true rfl) ?_
  refine W.eq (g2 := F0 m 4 ls []) rfl ?_
  refine lv_aload_n hx hb dX2_init_4 rfl (lv_at hl 0 rfl) ?_
  refine lv_iconst (v := 0) hx hb dX2_init_5 (by decide) ?_
  refine g_put (ty := .int) (v := .int 0) hx hb hts i_X2 tyX2 tyX2_ok nmX2 hown hK hw 0 rfl rfl 4 (by decide) L_7 (fun _ h => h) rfl (by decide +kernel) rfl rfl (Nat.le_of_ble_eq_true rfl) dX2_init_6 (fun H locs hw => ?_)
  have hw : Wo D (nAt b k) (nF b k) [.inr (1, [.int 0, .null, .null, .null, .int 0])] s.heap H locs := hw
  refine lv_aload_n hx hb dX2_init_9 rfl (lv_at hl 0 rfl) ?_
  refine lv_iload_n hx hb dX2_init_10 rfl (lv_at hl 1 rfl) ?_
  refine g_putF (ty := .int) (v := .int 4) hx hb hts i_X2 tyX2 tyX2_ok nmX2 hown hK hw 0 rfl rfl 0 (by decide) L_13 (fun _ h => h) rfl hin rfl (by decide +kernel) rfl rfl (Nat.le_of_ble_eq_true rfl) dX2_init_11 (fun H locs hw => ?_)
  have hw : Wo D (nAt b k) (nF b k) [.inr (1, [.int 4, .null, .null, .null, .int 0])] s.heap H locs := hw
  refine lv_aload_n hx hb dX2_init_14 rfl (lv_at hl 0 rfl) ?_
  refine lv_iload_n hx hb dX2_init_15 rfl (lv_at hl 1 rfl) ?_
  refine n_newa (atype := .int) (ty := .int) (a0 := (4, .inl (fun _ => 0))) (v := 4) hx hb (hts (.arrayClass .int) (by decide +kernel)) rfl hK 1 rfl (fun h => h) hsz hw 1 rfl (by omega) (fun cA => vp_cell_i cA 4 (fun _ => 0)) (by decide +kernel) (by decide +kernel) (by decide +kernel) (by decide +kernel) (by decide +kernel) dX2_init_16 (fun H hw => ?_)
  have hw : Wo D (nAt b k) (nF b k) [.inr (1, [.int 4, .null, .null, .null, .int 0]), .inl (y 1, 4, .inl (fun _ => 0))] s.heap H locs := hw
  refine g_putF (ty := .array .int) (v := .ref (nA b (k + 1))) hx hb hts i_X2 tyX2 tyX2_ok nmX2 hown hK hw 0 rfl rfl 1 (by decide) L_16 (fun _ h => h) rfl hin rfl (by decide +kernel) rfl rfl (Nat.le_of_ble_eq_true rfl) dX2_init_18 (fun H locs hw => ?_)
  have hw : Wo D (nAt b k) (nF b k) [.inr (1, [.int 4, .ref (nA b (k + 1)), .null, .null, .int 0]), .inl (y 1, 4, .inl (fun _ => 0))] s.heap H locs := hw
  refine lv_aload_n hx hb dX2_init_21 rfl (lv_at hl 0 rfl) ?_
  refine lv_iload_n hx hb dX2_init_22 rfl (lv_at hl 1 rfl) ?_
  refine n_newa (atype := .int) (ty := .int) (a0 := (4, .inl (fun _ => 0))) (v := 4) hx hb (hts (.arrayClass .int) (by decide +kernel)) rfl hK 1 rfl (fun h => h) hsz hw 2 rfl (by omega) (fun cA => vp_cell_i cA 4 (fun _ => 0)) (by decide +kernel) (by decide +kernel) (by decide +kernel) (by decide +kernel) (by decide +kernel) dX2_init_23 (fun H hw => ?_)
  have hw : Wo D (nAt b k) (nF b k) [.inr (1, [.int 4, .ref (nA b (k + 1)), .null, .null, .int 0]), .inl (y 1, 4, .inl (fun _ => 0)), .inl (y 1, 4, .inl (fun _ => 0))] s.heap H locs := hw
  refine g_putF (ty := .array .int) (v := .ref (nA b (k + 2))) hx hb hts i_X2 tyX2 tyX2_ok nmX2 hown hK hw 0 rfl rfl 2 (by decide) L_20 (fun _ h => h) rfl hin rfl (by decide +kernel) rfl rfl (Nat.le_of_ble_eq_true rfl) dX2_init_25 (fun H locs hw => ?_)
  have hw : Wo D (nAt b k) (nF b k) [.inr (1, [.int 4, .ref (nA b (k + 1)), .ref (nA b (k + 2)), .null, .int 0]), .inl (y 1, 4, .inl (fun _ => 0)), .inl (y 1, 4, .inl (fun _ => 0))] s.heap H locs := hw
  refine lv_aload_n hx hb dX2_init_28 rfl (lv_at hl 0 rfl) ?_
  refine lv_iload_n hx hb dX2_init_29 rfl (lv_at hl 1 rfl) ?_
  refine n_newa (atype := .int) (ty := .int) (a0 := (4, .inl (fun _ => 0))) (v := 4) hx hb (hts (.arrayClass .int) (by decide +kernel)) rfl hK 1 rfl (fun h => h) hsz hw 3 rfl (by omega) (fun cA => vp_cell_i cA 4 (fun _ => 0)) (by decide +kernel) (by decide +kernel) (by decide +kernel) (by decide +kernel) (by decide +kernel) dX2_init_30 (fun H hw => ?_)
  have hw : Wo D (nAt b k) (nF b k) [.inr (1, [.int 4, .ref (nA b (k + 1)), .ref (nA b (k + 2)), .null, .int 0]), .inl (y 1, 4, .inl (fun _ => 0)), .inl (y 1, 4, .inl (fun _ => 0)), .inl (y 1, 4, .inl (fun _ => 0))] s.heap H locs := hw
  refine g_putF (ty := .array .int) (v := .ref (nA b (k + 3))) hx hb hts i_X2 tyX2 tyX2_ok nmX2 hown hK hw 0 rfl rfl 3 (by decide) L_23 (fun _ h => h) rfl hin rfl (by decide +kernel) rfl rfl (Nat.le_of_ble_eq_true rfl) dX2_init_32 (fun H locs hw => ?_)
  have hw : Wo D (nAt b k) (nF b k) [.inr (1, [.int 4, .ref (nA b (k + 1)), .ref (nA b (k + 2)), .ref (nA b (k + 3)), .int 0]), .inl (y 1, 4, .inl (fun _ => 0)), .inl (y 1, 4, .inl (fun _ => 0)), .inl (y 1, 4, .inl (fun _ => 0))] s.heap H locs := hw
  refine W.widen (k := 3) (n := 12) (by omega) (by omega) ?_
  exact W.vret hx hb hr (fun t ht _ => n_end hw t ht) hw.2.2.2.2 dX2_init_35
abbrev rm_X4_init : Room := { frames := 2, cells := 5, slots := 1090, locals := 33 }
set_option maxHeartbeats 1000000 in
set_option maxRecDepth 100000 in
theorem k_X4_init {l : Launch} {D : va_G} {y : Nat → ClassId} {z b k : Nat} {adE : Nat → Nat} (hz : z ≤ nA b k) : CTN l yX4_init wsX4_init rm_X4_init D (tyL y) z adE b k (.inr (3, [.null, .null, .int 0])) [.inr (3, [.ref (nA b (k + 1)), .ref (nA b (k + 5)), .int 1]), .inr (1, [.int 348, .ref (nA b (k + 2)), .ref (nA b (k + 3)), .ref (nA b (k + 4)), .int 0]), .inl (y 1, 348, .inl (fun _ => 0)), .inl (y 1, 348, .inl (fun _ => 0)), .inl (y 1, 348, .inl (fun _ => 0)), .inl (y 1, 41, .inl (fun _ => 0))] [.ref (nA b k)] 5 1090 := by
  unfold CTN
  refine Met.ofW (cc := cX4_init) (maxL := 1) (ret := none) (by decide) rfl ?_
  intro p e s m args below meth c s₁ B hml hv
  obtain ⟨rfl, hsz, hP, hK, hst⟩ := hv
  have hx := B.exec
  have hb := B.bytes
  have hr := B.returns
  have hlocks := B.notSynchronized
  have hts := atoms_spec (ws := wsX4_init) B.pre
  have hown : s.vm.findClass RX4 = some m.cls := findClass_of_methodNamed B.named
  have hin : meth.name = "<init>" := (name_of_methodNamed B.named B.method).1
  have i_X2 : ∀ w ∈ u_ws RX2 TX2 5, w ∈ wsX4_init := by decide +kernel
  have i_X4 : ∀ w ∈ u_ws RX4 TX4 3, w ∈ wsX4_init := by decide +kernel
  have L_16 := hts (.fieldLink RX4 16 "CaseOrder$Net" "links" "LCaseOrder$Links;") (by decide +kernel)
  have L_20 := hts (.fieldLink RX4 20 "CaseOrder$Net" "least" "[I") (by decide +kernel)
  have L_24 := hts (.fieldLink RX4 24 "CaseOrder$Net" "nodes" "I") (by decide +kernel)
  have hw : Wo D (nAt b k) (nF b k) [.inr (3, [.null, .null, .int 0])] s.heap s.heap [] := n_start hP
  have hl := lv_entry ([.ref (nA b k)]) (n := 1) (Nat.le_of_ble_eq_true rfl)
  rw [lg_entry_eq]
  generalize (lg_sl ([.ref (nA b k)]) ++ List.replicate (1 - (lg_sl ([.ref (nA b k)])).length) Slot.unset).toArray = ls at hl ⊢
  have hl : lv_has ls 1 [(0, .ref (nA b k))] := hl
  refine lv_aload_n hx hb dX4_init_0 rfl (lv_at hl 0 rfl) ?_
  refine W.objInit hx hb hown (hts (.methodLink RX4 5 objectInit) (by decide +kernel)) (hts (.instanceMethod objectInit) (by decide +kernel)) (hts (.code objectInit ⟨#[0xb1]⟩ 1 none) (List.mem_of_getElem? (i := 3) rfl)) rfl (by rw [hml]; exact hl.1) rfl dX4_init_1 (Nat.le_of_ble_eq_true rfl) (Nat.le_of_ble_eq_true rfl) ?_
  refine W.eq (g2 := F0 m 4 ls []) rfl ?_
  refine lv_aload_n hx hb dX4_init_4 rfl (lv_at hl 0 rfl) ?_
  refine n_new (ci := 1) (fs := [.int 0, .null, .null, .null, .int 0]) (C := RX2) (T := TX2) (N := 5) hx hb hts i_X2 tyX2 tyX2_ok hown (hts (.classLink RX4 1 RX2) (by decide +kernel)) (hts (.instantiable RX2 5) (by decide +kernel)) (hts (.initialized RX2) (by decide +kernel)) hK hsz hw 1 rfl (by omega) rfl (fun j hj => by rcases (show j = 0 ∨ j = 1 ∨ j = 2 ∨ j = 3 ∨ j = 4 by omega) with rfl | rfl | rfl | rfl | rfl <;> rfl) (by decide +kernel) (by decide +kernel) dX4_init_5 (fun H hw => ?_)
  have hw : Wo D (nAt b k) (nF b k) [.inr (3, [.null, .null, .int 0]), .inr (1, [.int 0, .null, .null, .null, .int 0])] s.heap H [] := hw
  refine lv_dup hx hb dX4_init_8 rfl ?_
  refine lv_sipush (v := 348) hx hb dX4_init_9 (by decide) ?_
  refine n_I (n := 1) (F := [.inr (3, [.null, .null, .int 0])]) (x0 := .inr (1, [.int 0, .null, .null, .null, .int 0])) (As := [.int 348]) (rest := [.ref (nA b (k + 1)), .ref (nA b k)]) ⟨hx, hb, hml, hown, hts⟩ (k_X2_init_348 (nz hz)) (cwI 1 hts gX4_init_X2_init rfl rfl rfl (hts (.initialized RX2) (by decide +kernel)) (hts (.methodLink RX4 13 yX2_init) (by decide +kernel)) (hts (.instanceMethod yX2_init) (by decide +kernel)) rfl (by decide +kernel) ⟨by decide +kernel, by decide +kernel⟩) hz hst hK hsz hw rfl (by omega) rfl hl.1 rfl (Nat.le_of_ble_eq_true rfl) dX4_init_12 ⟨by decide +kernel, by decide +kernel⟩ (fun H locs hw => ?_)
  have hw : Wo D (nAt b k) (nF b k) [.inr (3, [.null, .null, .int 0]), .inr (1, [.int 348, .ref (nA b (k + 2)), .ref (nA b (k + 3)), .ref (nA b (k + 4)), .int 0]), .inl (y 1, 348, .inl (fun _ => 0)), .inl (y 1, 348, .inl (fun _ => 0)), .inl (y 1, 348, .inl (fun _ => 0))] s.heap H locs := hw
  refine g_putF (ty := .object "CaseOrder$Links") (v := .ref (nA b (k + 1))) hx hb hts i_X4 tyX4 tyX4_ok nmX4 hown hK hw 0 rfl rfl 0 (by decide) L_16 (fun _ h => h) rfl hin rfl (by decide +kernel) rfl rfl (Nat.le_of_ble_eq_true rfl) dX4_init_15 (fun H locs hw => ?_)
  have hw : Wo D (nAt b k) (nF b k) [.inr (3, [.ref (nA b (k + 1)), .null, .int 0]), .inr (1, [.int 348, .ref (nA b (k + 2)), .ref (nA b (k + 3)), .ref (nA b (k + 4)), .int 0]), .inl (y 1, 348, .inl (fun _ => 0)), .inl (y 1, 348, .inl (fun _ => 0)), .inl (y 1, 348, .inl (fun _ => 0))] s.heap H locs := hw
  refine lv_aload_n hx hb dX4_init_18 rfl (lv_at hl 0 rfl) ?_
  refine lv_bipush (v := 41) hx hb dX4_init_19 (by decide) ?_
  refine n_newa (atype := .int) (ty := .int) (a0 := (41, .inl (fun _ => 0))) (v := 41) hx hb (hts (.arrayClass .int) (by decide +kernel)) rfl hK 1 rfl (fun h => h) hsz hw 5 rfl (by omega) (fun cA => vp_cell_i cA 41 (fun _ => 0)) (by decide +kernel) (by decide +kernel) (by decide +kernel) (by decide +kernel) (by decide +kernel) dX4_init_21 (fun H hw => ?_)
  have hw : Wo D (nAt b k) (nF b k) [.inr (3, [.ref (nA b (k + 1)), .null, .int 0]), .inr (1, [.int 348, .ref (nA b (k + 2)), .ref (nA b (k + 3)), .ref (nA b (k + 4)), .int 0]), .inl (y 1, 348, .inl (fun _ => 0)), .inl (y 1, 348, .inl (fun _ => 0)), .inl (y 1, 348, .inl (fun _ => 0)), .inl (y 1, 41, .inl (fun _ => 0))] s.heap H locs := hw
  refine g_putF (ty := .array .int) (v := .ref (nA b (k + 5))) hx hb hts i_X4 tyX4 tyX4_ok nmX4 hown hK hw 0 rfl rfl 1 (by decide) L_20 (fun _ h => h) rfl hin rfl (by decide +kernel) rfl rfl (Nat.le_of_ble_eq_true rfl) dX4_init_23 (fun H locs hw => ?_)
  have hw : Wo D (nAt b k) (nF b k) [.inr (3, [.ref (nA b (k + 1)), .ref (nA b (k + 5)), .int 0]), .inr (1, [.int 348, .ref (nA b (k + 2)), .ref (nA b (k + 3)), .ref (nA b (k + 4)), .int 0]), .inl (y 1, 348, .inl (fun _ => 0)), .inl (y 1, 348, .inl (fun _ => 0)), .inl (y 1, 348, .inl (fun _ => 0)), .inl (y 1, 41, .inl (fun _ => 0))] s.heap H locs := hw
  refine lv_aload_n hx hb dX4_init_26 rfl (lv_at hl 0 rfl) ?_
  refine lv_iconst (v := 1) hx hb dX4_init_27 (by decide) ?_
  refine g_put (ty := .int) (v := .int 1) hx hb hts i_X4 tyX4 tyX4_ok nmX4 hown hK hw 0 rfl rfl 2 (by decide) L_24 (fun _ h => h) rfl (by decide +kernel) rfl rfl (Nat.le_of_ble_eq_true rfl) dX4_init_28 (fun H locs hw => ?_)
  have hw : Wo D (nAt b k) (nF b k) [.inr (3, [.ref (nA b (k + 1)), .ref (nA b (k + 5)), .int 1]), .inr (1, [.int 348, .ref (nA b (k + 2)), .ref (nA b (k + 3)), .ref (nA b (k + 4)), .int 0]), .inl (y 1, 348, .inl (fun _ => 0)), .inl (y 1, 348, .inl (fun _ => 0)), .inl (y 1, 348, .inl (fun _ => 0)), .inl (y 1, 41, .inl (fun _ => 0))] s.heap H locs := hw
  refine W.widen (k := 5) (n := 1090) (by omega) (by omega) ?_
  exact W.vret hx hb hr (fun t ht _ => n_end hw t ht) hw.2.2.2.2 dX4_init_31
abbrev rm_X1_init : Room := { frames := 3, cells := 13, slots := 1274, locals := 53 }
set_option maxHeartbeats 1000000 in
set_option maxRecDepth 100000 in
theorem k_X1_init {l : Launch} {D : va_G} {y : Nat → ClassId} {z b k : Nat} {adE : Nat → Nat} {a1 : Nat} {a2 : Nat} (hz : z ≤ nA b k) : CTN l yX1_init wsX1_init rm_X1_init D (tyL y) z adE b k (.inr (0, [.null, .null, .null, .null, .null, .null, .null, .int 0, .int 0, .int 0, .int 0, .int 0, .int 0])) [.inr (0, [.ref a1, .ref a2, .ref (nA b (k + 1)), .ref (nA b (k + 7)), .ref (nA b (k + 11)), .ref (nA b (k + 12)), .ref (nA b (k + 13)), .int 63, .int 0, .int 0, .int 0, .int 0, .int 0]), .inr (3, [.ref (nA b (k + 2)), .ref (nA b (k + 6)), .int 1]), .inr (1, [.int 348, .ref (nA b (k + 3)), .ref (nA b (k + 4)), .ref (nA b (k + 5)), .int 0]), .inl (y 1, 348, .inl (fun _ => 0)), .inl (y 1, 348, .inl (fun _ => 0)), .inl (y 1, 348, .inl (fun _ => 0)), .inl (y 1, 41, .inl (fun _ => 0)), .inr (1, [.int 4, .ref (nA b (k + 8)), .ref (nA b (k + 9)), .ref (nA b (k + 10)), .int 0]), .inl (y 1, 4, .inl (fun _ => 0)), .inl (y 1, 4, .inl (fun _ => 0)), .inl (y 1, 4, .inl (fun _ => 0)), .inl (y 2, 72, .inl (fun _ => 0)), .inl (y 1, 72, .inl (fun _ => 0)), .inl (y 1, 20, .inl (fun _ => 0))] [.ref (nA b k), .ref a1, .ref a2] 13 1274 := by
  unfold CTN
  refine Met.ofW (cc := cX1_init) (maxL := 3) (ret := none) (by decide) rfl ?_
  intro p e s m args below meth c s₁ B hml hv
  obtain ⟨rfl, hsz, hP, hK, hst⟩ := hv
  have hx := B.exec
  have hb := B.bytes
  have hr := B.returns
  have hlocks := B.notSynchronized
  have hts := atoms_spec (ws := wsX1_init) B.pre
  have hown : s.vm.findClass RX1 = some m.cls := findClass_of_methodNamed B.named
  have hin : meth.name = "<init>" := (name_of_methodNamed B.named B.method).1
  have i_X1 : ∀ w ∈ u_ws RX1 TX1 13, w ∈ wsX1_init := by decide +kernel
  have i_X2 : ∀ w ∈ u_ws RX2 TX2 5, w ∈ wsX1_init := by decide +kernel
  have i_X4 : ∀ w ∈ u_ws RX4 TX4 3, w ∈ wsX1_init := by decide +kernel
  have L_12 := hts (.fieldLink RX1 12 "CaseOrder$Hearing" "net" "LCaseOrder$Net;") (by decide +kernel)
  have L_23 := hts (.fieldLink RX1 23 "CaseOrder$Hearing" "claims" "LCaseOrder$Links;") (by decide +kernel)
  have L_27 := hts (.fieldLink RX1 27 "CaseOrder$Hearing" "leftOut" "[Z") (by decide +kernel)
  have L_31 := hts (.fieldLink RX1 31 "CaseOrder$Hearing" "quarrelRow" "[I") (by decide +kernel)
  have L_35 := hts (.fieldLink RX1 35 "CaseOrder$Hearing" "line" "[I") (by decide +kernel)
  have L_38 := hts (.fieldLink RX1 38 "CaseOrder$Hearing" "heard" "I") (by decide +kernel)
  have L_42 := hts (.fieldLink RX1 42 "CaseOrder$Hearing" "quarrelSize" "I") (by decide +kernel)
  have L_45 := hts (.fieldLink RX1 45 "CaseOrder$Hearing" "wayKnown" "Z") (by decide +kernel)
  have L_49 := hts (.fieldLink RX1 49 "CaseOrder$Hearing" "way" "Z") (by decide +kernel)
  have L_52 := hts (.fieldLink RX1 52 "CaseOrder$Hearing" "quarrelKnown" "Z") (by decide +kernel)
  have L_55 := hts (.fieldLink RX1 55 "CaseOrder$Hearing" "lineKnown" "Z") (by decide +kernel)
  have L_58 := hts (.fieldLink RX1 58 "CaseOrder$Hearing" "texts" "[LCaseOrder$Text;") (by decide +kernel)
  have L_62 := hts (.fieldLink RX1 62 "CaseOrder$Hearing" "names" "LCaseOrder$Names;") (by decide +kernel)
  have hw : Wo D (nAt b k) (nF b k) [.inr (0, [.null, .null, .null, .null, .null, .null, .null, .int 0, .int 0, .int 0, .int 0, .int 0, .int 0])] s.heap s.heap [] := n_start hP
  have hl := lv_entry ([.ref (nA b k), .ref a1, .ref a2]) (n := 3) (Nat.le_of_ble_eq_true rfl)
  rw [lg_entry_eq]
  generalize (lg_sl ([.ref (nA b k), .ref a1, .ref a2]) ++ List.replicate (3 - (lg_sl ([.ref (nA b k), .ref a1, .ref a2])).length) Slot.unset).toArray = ls at hl ⊢
  have hl : lv_has ls 3 [(0, .ref (nA b k)), (1, .ref a1), (2, .ref a2)] := hl
  refine lv_aload_n hx hb dX1_init_0 rfl (lv_at hl 0 rfl) ?_
  refine W.objInit hx hb hown (hts (.methodLink RX1 3 objectInit) (by decide +kernel)) (hts (.instanceMethod objectInit) (by decide +kernel)) (hts (.code objectInit ⟨#[0xb1]⟩ 1 none) (List.mem_of_getElem? (i := 3) rfl)) rfl (by rw [hml]; exact hl.1) rfl dX1_init_1 (Nat.le_of_ble_eq_true rfl) (Nat.le_of_ble_eq_true rfl) ?_
  refine W.eq (g2 := F0 m 4 ls []) rfl ?_
  refine lv_aload_n hx hb dX1_init_4 rfl (lv_at hl 0 rfl) ?_
  refine n_new (ci := 3) (fs := [.null, .null, .int 0]) (C := RX4) (T := TX4) (N := 3) hx hb hts i_X4 tyX4 tyX4_ok hown (hts (.classLink RX1 9 RX4) (by decide +kernel)) (hts (.instantiable RX4 3) (by decide +kernel)) (hts (.initialized RX4) (by decide +kernel)) hK hsz hw 1 rfl (by omega) rfl (fun j hj => by rcases (show j = 0 ∨ j = 1 ∨ j = 2 by omega) with rfl | rfl | rfl <;> rfl) (by decide +kernel) (by decide +kernel) dX1_init_5 (fun H hw => ?_)
  have hw : Wo D (nAt b k) (nF b k) [.inr (0, [.null, .null, .null, .null, .null, .null, .null, .int 0, .int 0, .int 0, .int 0, .int 0, .int 0]), .inr (3, [.null, .null, .int 0])] s.heap H [] := hw
  refine lv_dup hx hb dX1_init_8 rfl ?_
  refine n_IN (n := 1) (F := [.inr (0, [.null, .null, .null, .null, .null, .null, .null, .int 0, .int 0, .int 0, .int 0, .int 0, .int 0])]) (x0 := .inr (3, [.null, .null, .int 0])) (As := []) (rest := [.ref (nA b (k + 1)), .ref (nA b k)]) ⟨hx, hb, hml, hown, hts⟩ (k_X4_init (nz hz)) ⟨va_cnB 0 hts gX1_init_X4_init_n11 rfl rfl rfl (hst.2.2.2.1 (.methodLinkNest RX1 11 yX4_init "CaseOrder") (by decide +kernel)) (hts (.initialized RX4) (by decide +kernel)) (by decide +kernel) ⟨by decide +kernel, by decide +kernel⟩, rfl, hts (.instanceMethod yX4_init) (by decide +kernel)⟩ hz hst hK hsz hw rfl (by omega) rfl hl.1 rfl (Nat.le_of_ble_eq_true rfl) dX1_init_9 ⟨by decide +kernel, by decide +kernel⟩ (fun H locs hw => ?_)
  have hw : Wo D (nAt b k) (nF b k) [.inr (0, [.null, .null, .null, .null, .null, .null, .null, .int 0, .int 0, .int 0, .int 0, .int 0, .int 0]), .inr (3, [.ref (nA b (k + 2)), .ref (nA b (k + 6)), .int 1]), .inr (1, [.int 348, .ref (nA b (k + 3)), .ref (nA b (k + 4)), .ref (nA b (k + 5)), .int 0]), .inl (y 1, 348, .inl (fun _ => 0)), .inl (y 1, 348, .inl (fun _ => 0)), .inl (y 1, 348, .inl (fun _ => 0)), .inl (y 1, 41, .inl (fun _ => 0))] s.heap H locs := hw
  refine g_putF (ty := .object "CaseOrder$Net") (v := .ref (nA b (k + 1))) hx hb hts i_X1 tyX1 tyX1_ok nmX1 hown hK hw 0 rfl rfl 2 (by decide) L_12 (fun _ h => h) rfl hin rfl (by decide +kernel) rfl rfl (Nat.le_of_ble_eq_true rfl) dX1_init_12 (fun H locs hw => ?_)
  have hw : Wo D (nAt b k) (nF b k) [.inr (0, [.null, .null, .ref (nA b (k + 1)), .null, .null, .null, .null, .int 0, .int 0, .int 0, .int 0, .int 0, .int 0]), .inr (3, [.ref (nA b (k + 2)), .ref (nA b (k + 6)), .int 1]), .inr (1, [.int 348, .ref (nA b (k + 3)), .ref (nA b (k + 4)), .ref (nA b (k + 5)), .int 0]), .inl (y 1, 348, .inl (fun _ => 0)), .inl (y 1, 348, .inl (fun _ => 0)), .inl (y 1, 348, .inl (fun _ => 0)), .inl (y 1, 41, .inl (fun _ => 0))] s.heap H locs := hw
  refine lv_aload_n hx hb dX1_init_15 rfl (lv_at hl 0 rfl) ?_
  refine n_new (ci := 1) (fs := [.int 0, .null, .null, .null, .int 0]) (C := RX2) (T := TX2) (N := 5) hx hb hts i_X2 tyX2 tyX2_ok hown (hts (.classLink RX1 18 RX2) (by decide +kernel)) (hts (.instantiable RX2 5) (by decide +kernel)) (hts (.initialized RX2) (by decide +kernel)) hK hsz hw 7 rfl (by omega) rfl (fun j hj => by rcases (show j = 0 ∨ j = 1 ∨ j = 2 ∨ j = 3 ∨ j = 4 by omega) with rfl | rfl | rfl | rfl | rfl <;> rfl) (by decide +kernel) (by decide +kernel) dX1_init_16 (fun H hw => ?_)
  have hw : Wo D (nAt b k) (nF b k) [.inr (0, [.null, .null, .ref (nA b (k + 1)), .null, .null, .null, .null, .int 0, .int 0, .int 0, .int 0, .int 0, .int 0]), .inr (3, [.ref (nA b (k + 2)), .ref (nA b (k + 6)), .int 1]), .inr (1, [.int 348, .ref (nA b (k + 3)), .ref (nA b (k + 4)), .ref (nA b (k + 5)), .int 0]), .inl (y 1, 348, .inl (fun _ => 0)), .inl (y 1, 348, .inl (fun _ => 0)), .inl (y 1, 348, .inl (fun _ => 0)), .inl (y 1, 41, .inl (fun _ => 0)), .inr (1, [.int 0, .null, .null, .null, .int 0])] s.heap H locs := hw
  refine lv_dup hx hb dX1_init_19 rfl ?_
  refine lv_iconst (v := 4) hx hb dX1_init_20 (by decide) ?_
  refine n_I (n := 7) (F := [.inr (0, [.null, .null, .ref (nA b (k + 1)), .null, .null, .null, .null, .int 0, .int 0, .int 0, .int 0, .int 0, .int 0]), .inr (3, [.ref (nA b (k + 2)), .ref (nA b (k + 6)), .int 1]), .inr (1, [.int 348, .ref (nA b (k + 3)), .ref (nA b (k + 4)), .ref (nA b (k + 5)), .int 0]), .inl (y 1, 348, .inl (fun _ => 0)), .inl (y 1, 348, .inl (fun _ => 0)), .inl (y 1, 348, .inl (fun _ => 0)), .inl (y 1, 41, .inl (fun _ => 0))]) (x0 := .inr (1, [.int 0, .null, .null, .null, .int 0])) (As := [.int 4]) (rest := [.ref (nA b (k + 7)), .ref (nA b k)]) ⟨hx, hb, hml, hown, hts⟩ (k_X2_init_4 (nz hz)) (cwI 1 hts gX1_init_X2_init rfl rfl rfl (hts (.initialized RX2) (by decide +kernel)) (hts (.methodLink RX1 20 yX2_init) (by decide +kernel)) (hts (.instanceMethod yX2_init) (by decide +kernel)) rfl (by decide +kernel) ⟨by decide +kernel, by decide +kernel⟩) hz hst hK hsz hw rfl (by omega) rfl hl.1 rfl (Nat.le_of_ble_eq_true rfl) dX1_init_21 ⟨by decide +kernel, by decide +kernel⟩ (fun H locs hw => ?_)
  have hw : Wo D (nAt b k) (nF b k) [.inr (0, [.null, .null, .ref (nA b (k + 1)), .null, .null, .null, .null, .int 0, .int 0, .int 0, .int 0, .int 0, .int 0]), .inr (3, [.ref (nA b (k + 2)), .ref (nA b (k + 6)), .int 1]), .inr (1, [.int 348, .ref (nA b (k + 3)), .ref (nA b (k + 4)), .ref (nA b (k + 5)), .int 0]), .inl (y 1, 348, .inl (fun _ => 0)), .inl (y 1, 348, .inl (fun _ => 0)), .inl (y 1, 348, .inl (fun _ => 0)), .inl (y 1, 41, .inl (fun _ => 0)), .inr (1, [.int 4, .ref (nA b (k + 8)), .ref (nA b (k + 9)), .ref (nA b (k + 10)), .int 0]), .inl (y 1, 4, .inl (fun _ => 0)), .inl (y 1, 4, .inl (fun _ => 0)), .inl (y 1, 4, .inl (fun _ => 0))] s.heap H locs := hw
  refine g_putF (ty := .object "CaseOrder$Links") (v := .ref (nA b (k + 7))) hx hb hts i_X1 tyX1 tyX1_ok nmX1 hown hK hw 0 rfl rfl 3 (by decide) L_23 (fun _ h => h) rfl hin rfl (by decide +kernel) rfl rfl (Nat.le_of_ble_eq_true rfl) dX1_init_24 (fun H locs hw => ?_)
  have hw : Wo D (nAt b k) (nF b k) [.inr (0, [.null, .null, .ref (nA b (k + 1)), .ref (nA b (k + 7)), .null, .null, .null, .int 0, .int 0, .int 0, .int 0, .int 0, .int 0]), .inr (3, [.ref (nA b (k + 2)), .ref (nA b (k + 6)), .int 1]), .inr (1, [.int 348, .ref (nA b (k + 3)), .ref (nA b (k + 4)), .ref (nA b (k + 5)), .int 0]), .inl (y 1, 348, .inl (fun _ => 0)), .inl (y 1, 348, .inl (fun _ => 0)), .inl (y 1, 348, .inl (fun _ => 0)), .inl (y 1, 41, .inl (fun _ => 0)), .inr (1, [.int 4, .ref (nA b (k + 8)), .ref (nA b (k + 9)), .ref (nA b (k + 10)), .int 0]), .inl (y 1, 4, .inl (fun _ => 0)), .inl (y 1, 4, .inl (fun _ => 0)), .inl (y 1, 4, .inl (fun _ => 0))] s.heap H locs := hw
  refine lv_aload_n hx hb dX1_init_27 rfl (lv_at hl 0 rfl) ?_
  refine lv_bipush (v := 72) hx hb dX1_init_28 (by decide) ?_
  refine n_newa (atype := .boolean) (ty := .boolean) (a0 := (72, .inl (fun _ => 0))) (v := 72) hx hb (hts (.arrayClass .boolean) (by decide +kernel)) rfl hK 2 rfl (fun h => h) hsz hw 11 rfl (by omega) (fun cA => vp_cell_i cA 72 (fun _ => 0)) (by decide +kernel) (by decide +kernel) (by decide +kernel) (by decide +kernel) (by decide +kernel) dX1_init_30 (fun H hw => ?_)
  have hw : Wo D (nAt b k) (nF b k) [.inr (0, [.null, .null, .ref (nA b (k + 1)), .ref (nA b (k + 7)), .null, .null, .null, .int 0, .int 0, .int 0, .int 0, .int 0, .int 0]), .inr (3, [.ref (nA b (k + 2)), .ref (nA b (k + 6)), .int 1]), .inr (1, [.int 348, .ref (nA b (k + 3)), .ref (nA b (k + 4)), .ref (nA b (k + 5)), .int 0]), .inl (y 1, 348, .inl (fun _ => 0)), .inl (y 1, 348, .inl (fun _ => 0)), .inl (y 1, 348, .inl (fun _ => 0)), .inl (y 1, 41, .inl (fun _ => 0)), .inr (1, [.int 4, .ref (nA b (k + 8)), .ref (nA b (k + 9)), .ref (nA b (k + 10)), .int 0]), .inl (y 1, 4, .inl (fun _ => 0)), .inl (y 1, 4, .inl (fun _ => 0)), .inl (y 1, 4, .inl (fun _ => 0)), .inl (y 2, 72, .inl (fun _ => 0))] s.heap H locs := hw
  refine g_putF (ty := .array .boolean) (v := .ref (nA b (k + 11))) hx hb hts i_X1 tyX1 tyX1_ok nmX1 hown hK hw 0 rfl rfl 4 (by decide) L_27 (fun _ h => h) rfl hin rfl (by decide +kernel) rfl rfl (Nat.le_of_ble_eq_true rfl) dX1_init_32 (fun H locs hw => ?_)
  have hw : Wo D (nAt b k) (nF b k) [.inr (0, [.null, .null, .ref (nA b (k + 1)), .ref (nA b (k + 7)), .ref (nA b (k + 11)), .null, .null, .int 0, .int 0, .int 0, .int 0, .int 0, .int 0]), .inr (3, [.ref (nA b (k + 2)), .ref (nA b (k + 6)), .int 1]), .inr (1, [.int 348, .ref (nA b (k + 3)), .ref (nA b (k + 4)), .ref (nA b (k + 5)), .int 0]), .inl (y 1, 348, .inl (fun _ => 0)), .inl (y 1, 348, .inl (fun _ => 0)), .inl (y 1, 348, .inl (fun _ => 0)), .inl (y 1, 41, .inl (fun _ => 0)), .inr (1, [.int 4, .ref (nA b (k + 8)), .ref (nA b (k + 9)), .ref (nA b (k + 10)), .int 0]), .inl (y 1, 4, .inl (fun _ => 0)), .inl (y 1, 4, .inl (fun _ => 0)), .inl (y 1, 4, .inl (fun _ => 0)), .inl (y 2, 72, .inl (fun _ => 0))] s.heap H locs := hw
  refine lv_aload_n hx hb dX1_init_35 rfl (lv_at hl 0 rfl) ?_
  refine lv_bipush (v := 72) hx hb dX1_init_36 (by decide) ?_
  refine n_newa (atype := .int) (ty := .int) (a0 := (72, .inl (fun _ => 0))) (v := 72) hx hb (hts (.arrayClass .int) (by decide +kernel)) rfl hK 1 rfl (fun h => h) hsz hw 12 rfl (by omega) (fun cA => vp_cell_i cA 72 (fun _ => 0)) (by decide +kernel) (by decide +kernel) (by decide +kernel) (by decide +kernel) (by decide +kernel) dX1_init_38 (fun H hw => ?_)
  have hw : Wo D (nAt b k) (nF b k) [.inr (0, [.null, .null, .ref (nA b (k + 1)), .ref (nA b (k + 7)), .ref (nA b (k + 11)), .null, .null, .int 0, .int 0, .int 0, .int 0, .int 0, .int 0]), .inr (3, [.ref (nA b (k + 2)), .ref (nA b (k + 6)), .int 1]), .inr (1, [.int 348, .ref (nA b (k + 3)), .ref (nA b (k + 4)), .ref (nA b (k + 5)), .int 0]), .inl (y 1, 348, .inl (fun _ => 0)), .inl (y 1, 348, .inl (fun _ => 0)), .inl (y 1, 348, .inl (fun _ => 0)), .inl (y 1, 41, .inl (fun _ => 0)), .inr (1, [.int 4, .ref (nA b (k + 8)), .ref (nA b (k + 9)), .ref (nA b (k + 10)), .int 0]), .inl (y 1, 4, .inl (fun _ => 0)), .inl (y 1, 4, .inl (fun _ => 0)), .inl (y 1, 4, .inl (fun _ => 0)), .inl (y 2, 72, .inl (fun _ => 0)), .inl (y 1, 72, .inl (fun _ => 0))] s.heap H locs := hw
  refine g_putF (ty := .array .int) (v := .ref (nA b (k + 12))) hx hb hts i_X1 tyX1 tyX1_ok nmX1 hown hK hw 0 rfl rfl 5 (by decide) L_31 (fun _ h => h) rfl hin rfl (by decide +kernel) rfl rfl (Nat.le_of_ble_eq_true rfl) dX1_init_40 (fun H locs hw => ?_)
  have hw : Wo D (nAt b k) (nF b k) [.inr (0, [.null, .null, .ref (nA b (k + 1)), .ref (nA b (k + 7)), .ref (nA b (k + 11)), .ref (nA b (k + 12)), .null, .int 0, .int 0, .int 0, .int 0, .int 0, .int 0]), .inr (3, [.ref (nA b (k + 2)), .ref (nA b (k + 6)), .int 1]), .inr (1, [.int 348, .ref (nA b (k + 3)), .ref (nA b (k + 4)), .ref (nA b (k + 5)), .int 0]), .inl (y 1, 348, .inl (fun _ => 0)), .inl (y 1, 348, .inl (fun _ => 0)), .inl (y 1, 348, .inl (fun _ => 0)), .inl (y 1, 41, .inl (fun _ => 0)), .inr (1, [.int 4, .ref (nA b (k + 8)), .ref (nA b (k + 9)), .ref (nA b (k + 10)), .int 0]), .inl (y 1, 4, .inl (fun _ => 0)), .inl (y 1, 4, .inl (fun _ => 0)), .inl (y 1, 4, .inl (fun _ => 0)), .inl (y 2, 72, .inl (fun _ => 0)), .inl (y 1, 72, .inl (fun _ => 0))] s.heap H locs := hw
  refine lv_aload_n hx hb dX1_init_43 rfl (lv_at hl 0 rfl) ?_
  refine lv_bipush (v := 20) hx hb dX1_init_44 (by decide) ?_
  refine n_newa (atype := .int) (ty := .int) (a0 := (20, .inl (fun _ => 0))) (v := 20) hx hb (hts (.arrayClass .int) (by decide +kernel)) rfl hK 1 rfl (fun h => h) hsz hw 13 rfl (by omega) (fun cA => vp_cell_i cA 20 (fun _ => 0)) (by decide +kernel) (by decide +kernel) (by decide +kernel) (by decide +kernel) (by decide +kernel) dX1_init_46 (fun H hw => ?_)
  have hw : Wo D (nAt b k) (nF b k) [.inr (0, [.null, .null, .ref (nA b (k + 1)), .ref (nA b (k + 7)), .ref (nA b (k + 11)), .ref (nA b (k + 12)), .null, .int 0, .int 0, .int 0, .int 0, .int 0, .int 0]), .inr (3, [.ref (nA b (k + 2)), .ref (nA b (k + 6)), .int 1]), .inr (1, [.int 348, .ref (nA b (k + 3)), .ref (nA b (k + 4)), .ref (nA b (k + 5)), .int 0]), .inl (y 1, 348, .inl (fun _ => 0)), .inl (y 1, 348, .inl (fun _ => 0)), .inl (y 1, 348, .inl (fun _ => 0)), .inl (y 1, 41, .inl (fun _ => 0)), .inr (1, [.int 4, .ref (nA b (k + 8)), .ref (nA b (k + 9)), .ref (nA b (k + 10)), .int 0]), .inl (y 1, 4, .inl (fun _ => 0)), .inl (y 1, 4, .inl (fun _ => 0)), .inl (y 1, 4, .inl (fun _ => 0)), .inl (y 2, 72, .inl (fun _ => 0)), .inl (y 1, 72, .inl (fun _ => 0)), .inl (y 1, 20, .inl (fun _ => 0))] s.heap H locs := hw
  refine g_putF (ty := .array .int) (v := .ref (nA b (k + 13))) hx hb hts i_X1 tyX1 tyX1_ok nmX1 hown hK hw 0 rfl rfl 6 (by decide) L_35 (fun _ h => h) rfl hin rfl (by decide +kernel) rfl rfl (Nat.le_of_ble_eq_true rfl) dX1_init_48 (fun H locs hw => ?_)
  have hw : Wo D (nAt b k) (nF b k) [.inr (0, [.null, .null, .ref (nA b (k + 1)), .ref (nA b (k + 7)), .ref (nA b (k + 11)), .ref (nA b (k + 12)), .ref (nA b (k + 13)), .int 0, .int 0, .int 0, .int 0, .int 0, .int 0]), .inr (3, [.ref (nA b (k + 2)), .ref (nA b (k + 6)), .int 1]), .inr (1, [.int 348, .ref (nA b (k + 3)), .ref (nA b (k + 4)), .ref (nA b (k + 5)), .int 0]), .inl (y 1, 348, .inl (fun _ => 0)), .inl (y 1, 348, .inl (fun _ => 0)), .inl (y 1, 348, .inl (fun _ => 0)), .inl (y 1, 41, .inl (fun _ => 0)), .inr (1, [.int 4, .ref (nA b (k + 8)), .ref (nA b (k + 9)), .ref (nA b (k + 10)), .int 0]), .inl (y 1, 4, .inl (fun _ => 0)), .inl (y 1, 4, .inl (fun _ => 0)), .inl (y 1, 4, .inl (fun _ => 0)), .inl (y 2, 72, .inl (fun _ => 0)), .inl (y 1, 72, .inl (fun _ => 0)), .inl (y 1, 20, .inl (fun _ => 0))] s.heap H locs := hw
  refine lv_aload_n hx hb dX1_init_51 rfl (lv_at hl 0 rfl) ?_
  refine lv_bipush (v := 63) hx hb dX1_init_52 (by decide) ?_
  refine g_put (ty := .int) (v := .int 63) hx hb hts i_X1 tyX1 tyX1_ok nmX1 hown hK hw 0 rfl rfl 7 (by decide) L_38 (fun _ h => h) rfl (by decide +kernel) rfl rfl (Nat.le_of_ble_eq_true rfl) dX1_init_54 (fun H locs hw => ?_)
  have hw : Wo D (nAt b k) (nF b k) [.inr (0, [.null, .null, .ref (nA b (k + 1)), .ref (nA b (k + 7)), .ref (nA b (k + 11)), .ref (nA b (k + 12)), .ref (nA b (k + 13)), .int 63, .int 0, .int 0, .int 0, .int 0, .int 0]), .inr (3, [.ref (nA b (k + 2)), .ref (nA b (k + 6)), .int 1]), .inr (1, [.int 348, .ref (nA b (k + 3)), .ref (nA b (k + 4)), .ref (nA b (k + 5)), .int 0]), .inl (y 1, 348, .inl (fun _ => 0)), .inl (y 1, 348, .inl (fun _ => 0)), .inl (y 1, 348, .inl (fun _ => 0)), .inl (y 1, 41, .inl (fun _ => 0)), .inr (1, [.int 4, .ref (nA b (k + 8)), .ref (nA b (k + 9)), .ref (nA b (k + 10)), .int 0]), .inl (y 1, 4, .inl (fun _ => 0)), .inl (y 1, 4, .inl (fun _ => 0)), .inl (y 1, 4, .inl (fun _ => 0)), .inl (y 2, 72, .inl (fun _ => 0)), .inl (y 1, 72, .inl (fun _ => 0)), .inl (y 1, 20, .inl (fun _ => 0))] s.heap H locs := hw
  refine lv_aload_n hx hb dX1_init_57 rfl (lv_at hl 0 rfl) ?_
  refine lv_iconst (v := 0) hx hb dX1_init_58 (by decide) ?_
  refine g_put (ty := .int) (v := .int 0) hx hb hts i_X1 tyX1 tyX1_ok nmX1 hown hK hw 0 rfl rfl 8 (by decide) L_42 (fun _ h => h) rfl (by decide +kernel) rfl rfl (Nat.le_of_ble_eq_true rfl) dX1_init_59 (fun H locs hw => ?_)
  have hw : Wo D (nAt b k) (nF b k) [.inr (0, [.null, .null, .ref (nA b (k + 1)), .ref (nA b (k + 7)), .ref (nA b (k + 11)), .ref (nA b (k + 12)), .ref (nA b (k + 13)), .int 63, .int 0, .int 0, .int 0, .int 0, .int 0]), .inr (3, [.ref (nA b (k + 2)), .ref (nA b (k + 6)), .int 1]), .inr (1, [.int 348, .ref (nA b (k + 3)), .ref (nA b (k + 4)), .ref (nA b (k + 5)), .int 0]), .inl (y 1, 348, .inl (fun _ => 0)), .inl (y 1, 348, .inl (fun _ => 0)), .inl (y 1, 348, .inl (fun _ => 0)), .inl (y 1, 41, .inl (fun _ => 0)), .inr (1, [.int 4, .ref (nA b (k + 8)), .ref (nA b (k + 9)), .ref (nA b (k + 10)), .int 0]), .inl (y 1, 4, .inl (fun _ => 0)), .inl (y 1, 4, .inl (fun _ => 0)), .inl (y 1, 4, .inl (fun _ => 0)), .inl (y 2, 72, .inl (fun _ => 0)), .inl (y 1, 72, .inl (fun _ => 0)), .inl (y 1, 20, .inl (fun _ => 0))] s.heap H locs := hw
  refine lv_aload_n hx hb dX1_init_62 rfl (lv_at hl 0 rfl) ?_
  refine lv_iconst (v := 0) hx hb dX1_init_63 (by decide) ?_
  refine g_put (ty := .boolean) (v := .int 0) hx hb hts i_X1 tyX1 tyX1_ok nmX1 hown hK hw 0 rfl rfl 9 (by decide) L_45 (fun _ h => h) rfl (by decide +kernel) rfl rfl (Nat.le_of_ble_eq_true rfl) dX1_init_64 (fun H locs hw => ?_)
  have hw : Wo D (nAt b k) (nF b k) [.inr (0, [.null, .null, .ref (nA b (k + 1)), .ref (nA b (k + 7)), .ref (nA b (k + 11)), .ref (nA b (k + 12)), .ref (nA b (k + 13)), .int 63, .int 0, .int 0, .int 0, .int 0, .int 0]), .inr (3, [.ref (nA b (k + 2)), .ref (nA b (k + 6)), .int 1]), .inr (1, [.int 348, .ref (nA b (k + 3)), .ref (nA b (k + 4)), .ref (nA b (k + 5)), .int 0]), .inl (y 1, 348, .inl (fun _ => 0)), .inl (y 1, 348, .inl (fun _ => 0)), .inl (y 1, 348, .inl (fun _ => 0)), .inl (y 1, 41, .inl (fun _ => 0)), .inr (1, [.int 4, .ref (nA b (k + 8)), .ref (nA b (k + 9)), .ref (nA b (k + 10)), .int 0]), .inl (y 1, 4, .inl (fun _ => 0)), .inl (y 1, 4, .inl (fun _ => 0)), .inl (y 1, 4, .inl (fun _ => 0)), .inl (y 2, 72, .inl (fun _ => 0)), .inl (y 1, 72, .inl (fun _ => 0)), .inl (y 1, 20, .inl (fun _ => 0))] s.heap H locs := hw
  refine lv_aload_n hx hb dX1_init_67 rfl (lv_at hl 0 rfl) ?_
  refine lv_iconst (v := 0) hx hb dX1_init_68 (by decide) ?_
  refine g_put (ty := .boolean) (v := .int 0) hx hb hts i_X1 tyX1 tyX1_ok nmX1 hown hK hw 0 rfl rfl 10 (by decide) L_49 (fun _ h => h) rfl (by decide +kernel) rfl rfl (Nat.le_of_ble_eq_true rfl) dX1_init_69 (fun H locs hw => ?_)
  have hw : Wo D (nAt b k) (nF b k) [.inr (0, [.null, .null, .ref (nA b (k + 1)), .ref (nA b (k + 7)), .ref (nA b (k + 11)), .ref (nA b (k + 12)), .ref (nA b (k + 13)), .int 63, .int 0, .int 0, .int 0, .int 0, .int 0]), .inr (3, [.ref (nA b (k + 2)), .ref (nA b (k + 6)), .int 1]), .inr (1, [.int 348, .ref (nA b (k + 3)), .ref (nA b (k + 4)), .ref (nA b (k + 5)), .int 0]), .inl (y 1, 348, .inl (fun _ => 0)), .inl (y 1, 348, .inl (fun _ => 0)), .inl (y 1, 348, .inl (fun _ => 0)), .inl (y 1, 41, .inl (fun _ => 0)), .inr (1, [.int 4, .ref (nA b (k + 8)), .ref (nA b (k + 9)), .ref (nA b (k + 10)), .int 0]), .inl (y 1, 4, .inl (fun _ => 0)), .inl (y 1, 4, .inl (fun _ => 0)), .inl (y 1, 4, .inl (fun _ => 0)), .inl (y 2, 72, .inl (fun _ => 0)), .inl (y 1, 72, .inl (fun _ => 0)), .inl (y 1, 20, .inl (fun _ => 0))] s.heap H locs := hw
  refine lv_aload_n hx hb dX1_init_72 rfl (lv_at hl 0 rfl) ?_
  refine lv_iconst (v := 0) hx hb dX1_init_73 (by decide) ?_
  refine g_put (ty := .boolean) (v := .int 0) hx hb hts i_X1 tyX1 tyX1_ok nmX1 hown hK hw 0 rfl rfl 11 (by decide) L_52 (fun _ h => h) rfl (by decide +kernel) rfl rfl (Nat.le_of_ble_eq_true rfl) dX1_init_74 (fun H locs hw => ?_)
  have hw : Wo D (nAt b k) (nF b k) [.inr (0, [.null, .null, .ref (nA b (k + 1)), .ref (nA b (k + 7)), .ref (nA b (k + 11)), .ref (nA b (k + 12)), .ref (nA b (k + 13)), .int 63, .int 0, .int 0, .int 0, .int 0, .int 0]), .inr (3, [.ref (nA b (k + 2)), .ref (nA b (k + 6)), .int 1]), .inr (1, [.int 348, .ref (nA b (k + 3)), .ref (nA b (k + 4)), .ref (nA b (k + 5)), .int 0]), .inl (y 1, 348, .inl (fun _ => 0)), .inl (y 1, 348, .inl (fun _ => 0)), .inl (y 1, 348, .inl (fun _ => 0)), .inl (y 1, 41, .inl (fun _ => 0)), .inr (1, [.int 4, .ref (nA b (k + 8)), .ref (nA b (k + 9)), .ref (nA b (k + 10)), .int 0]), .inl (y 1, 4, .inl (fun _ => 0)), .inl (y 1, 4, .inl (fun _ => 0)), .inl (y 1, 4, .inl (fun _ => 0)), .inl (y 2, 72, .inl (fun _ => 0)), .inl (y 1, 72, .inl (fun _ => 0)), .inl (y 1, 20, .inl (fun _ => 0))] s.heap H locs := hw
  refine lv_aload_n hx hb dX1_init_77 rfl (lv_at hl 0 rfl) ?_
  refine lv_iconst (v := 0) hx hb dX1_init_78 (by decide) ?_
  refine g_put (ty := .boolean) (v := .int 0) hx hb hts i_X1 tyX1 tyX1_ok nmX1 hown hK hw 0 rfl rfl 12 (by decide) L_55 (fun _ h => h) rfl (by decide +kernel) rfl rfl (Nat.le_of_ble_eq_true rfl) dX1_init_79 (fun H locs hw => ?_)
  have hw : Wo D (nAt b k) (nF b k) [.inr (0, [.null, .null, .ref (nA b (k + 1)), .ref (nA b (k + 7)), .ref (nA b (k + 11)), .ref (nA b (k + 12)), .ref (nA b (k + 13)), .int 63, .int 0, .int 0, .int 0, .int 0, .int 0]), .inr (3, [.ref (nA b (k + 2)), .ref (nA b (k + 6)), .int 1]), .inr (1, [.int 348, .ref (nA b (k + 3)), .ref (nA b (k + 4)), .ref (nA b (k + 5)), .int 0]), .inl (y 1, 348, .inl (fun _ => 0)), .inl (y 1, 348, .inl (fun _ => 0)), .inl (y 1, 348, .inl (fun _ => 0)), .inl (y 1, 41, .inl (fun _ => 0)), .inr (1, [.int 4, .ref (nA b (k + 8)), .ref (nA b (k + 9)), .ref (nA b (k + 10)), .int 0]), .inl (y 1, 4, .inl (fun _ => 0)), .inl (y 1, 4, .inl (fun _ => 0)), .inl (y 1, 4, .inl (fun _ => 0)), .inl (y 2, 72, .inl (fun _ => 0)), .inl (y 1, 72, .inl (fun _ => 0)), .inl (y 1, 20, .inl (fun _ => 0))] s.heap H locs := hw
  refine lv_aload_n hx hb dX1_init_82 rfl (lv_at hl 0 rfl) ?_
  refine lv_aload_n hx hb dX1_init_83 rfl (lv_at hl 1 rfl) ?_
  refine g_putF (ty := .array (.object "CaseOrder$Text")) (v := .ref a1) hx hb hts i_X1 tyX1 tyX1_ok nmX1 hown hK hw 0 rfl rfl 0 (by decide) L_58 (fun _ h => h) rfl hin rfl (by decide +kernel) rfl rfl (Nat.le_of_ble_eq_true rfl) dX1_init_84 (fun H locs hw => ?_)
  have hw : Wo D (nAt b k) (nF b k) [.inr (0, [.ref a1, .null, .ref (nA b (k + 1)), .ref (nA b (k + 7)), .ref (nA b (k + 11)), .ref (nA b (k + 12)), .ref (nA b (k + 13)), .int 63, .int 0, .int 0, .int 0, .int 0, .int 0]), .inr (3, [.ref (nA b (k + 2)), .ref (nA b (k + 6)), .int 1]), .inr (1, [.int 348, .ref (nA b (k + 3)), .ref (nA b (k + 4)), .ref (nA b (k + 5)), .int 0]), .inl (y 1, 348, .inl (fun _ => 0)), .inl (y 1, 348, .inl (fun _ => 0)), .inl (y 1, 348, .inl (fun _ => 0)), .inl (y 1, 41, .inl (fun _ => 0)), .inr (1, [.int 4, .ref (nA b (k + 8)), .ref (nA b (k + 9)), .ref (nA b (k + 10)), .int 0]), .inl (y 1, 4, .inl (fun _ => 0)), .inl (y 1, 4, .inl (fun _ => 0)), .inl (y 1, 4, .inl (fun _ => 0)), .inl (y 2, 72, .inl (fun _ => 0)), .inl (y 1, 72, .inl (fun _ => 0)), .inl (y 1, 20, .inl (fun _ => 0))] s.heap H locs := hw
  refine lv_aload_n hx hb dX1_init_87 rfl (lv_at hl 0 rfl) ?_
  refine lv_aload_n hx hb dX1_init_88 rfl (lv_at hl 2 rfl) ?_
  refine g_putF (ty := .object "CaseOrder$Names") (v := .ref a2) hx hb hts i_X1 tyX1 tyX1_ok nmX1 hown hK hw 0 rfl rfl 1 (by decide) L_62 (fun _ h => h) rfl hin rfl (by decide +kernel) rfl rfl (Nat.le_of_ble_eq_true rfl) dX1_init_89 (fun H locs hw => ?_)
  have hw : Wo D (nAt b k) (nF b k) [.inr (0, [.ref a1, .ref a2, .ref (nA b (k + 1)), .ref (nA b (k + 7)), .ref (nA b (k + 11)), .ref (nA b (k + 12)), .ref (nA b (k + 13)), .int 63, .int 0, .int 0, .int 0, .int 0, .int 0]), .inr (3, [.ref (nA b (k + 2)), .ref (nA b (k + 6)), .int 1]), .inr (1, [.int 348, .ref (nA b (k + 3)), .ref (nA b (k + 4)), .ref (nA b (k + 5)), .int 0]), .inl (y 1, 348, .inl (fun _ => 0)), .inl (y 1, 348, .inl (fun _ => 0)), .inl (y 1, 348, .inl (fun _ => 0)), .inl (y 1, 41, .inl (fun _ => 0)), .inr (1, [.int 4, .ref (nA b (k + 8)), .ref (nA b (k + 9)), .ref (nA b (k + 10)), .int 0]), .inl (y 1, 4, .inl (fun _ => 0)), .inl (y 1, 4, .inl (fun _ => 0)), .inl (y 1, 4, .inl (fun _ => 0)), .inl (y 2, 72, .inl (fun _ => 0)), .inl (y 1, 72, .inl (fun _ => 0)), .inl (y 1, 20, .inl (fun _ => 0))] s.heap H locs := hw
  refine W.widen (k := 13) (n := 1274) (by omega) (by omega) ?_
  exact W.vret hx hb hr (fun t ht _ => n_end hw t ht) hw.2.2.2.2 dX1_init_92
