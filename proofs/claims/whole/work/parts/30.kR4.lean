abbrev rm_X12_octet : Room := { frames := 1, cells := 0, slots := 0, locals := 21 }
abbrev QM_X12_octet (below : List Frame) (args : Array Value) (s : State) (D : va_G) (ad : Nat → Nat) (y : Nat → ClassId) (m_taped : Int32) (m_size : Int32) (m_to : Int32) (m_from : Int32) (m_kind : Int32) (m_number : Int32) (m_fault : Int32) (m_place : Int32) (m_name : Int64) (m_happenings : Int32) (m_newHappenings : Int32) (m_heard : Int32) (m_outs : Int32) (m_bounds : Int32) (a_tape : Nat → Int32) (a_happened : Nat → Int64) (a_many : Nat → Int32) (a_sort : Nat → Int32) (a_one : Nat → Int32) (a_other : Nat → Int32) (a_low : Nat → Int32) (a_high : Nat → Int32) (a_begins : Nat → Int32) (a_out : Nat → Int32) (a_behind : Nat → Int32) (a_ahead : Nat → Int32) (a_most : Nat → Int32) (a_left : Nat → Int32) (a_far : Nat → Int32) (a_quarrel : Nat → Int32) (a_early : Nat → Int32) (a_earlyLast : Nat → Int32) (res : Int32 × Int32) : State → Prop := MQ below (va_Qi (fun x (_ : Unit) => x = res.1) (fun _ t => va_P D vwCl (wls ad (eR ad y res.2 m_taped m_size m_to m_from m_kind m_number m_fault m_place m_name m_happenings m_newHappenings m_heard m_outs m_bounds a_tape a_happened a_many a_sort a_one a_other a_low a_high a_begins a_out a_behind a_ahead a_most a_left a_far a_quarrel a_early a_earlyLast)) t.heap) (Aw ad 19 s.heap.size)) args s 0 0 (Aw ad 19 s.heap.size)
set_option maxHeartbeats 4000000 in
set_option maxRecDepth 100000 in
theorem kb_X12_octet_b12 {p : Program} {l : Launch} {e : Env} {s : State} {m : MethodId} {args : Array Value} {below : List Frame} {meth : Method} {c : Code} {D : va_G} {ad : Nat → Nat} {y : Nat → ClassId} (C0 : CXT wsX12_octet cX12_octet RX12 2 (some .int) D (tyL y) (STR ad) p s m args meth c) {m_thrown : Int32} {m_taped : Int32} {m_size : Int32} {m_to : Int32} {m_from : Int32} {m_kind : Int32} {m_number : Int32} {m_fault : Int32} {m_place : Int32} {m_name : Int64} {m_happenings : Int32} {m_newHappenings : Int32} {m_heard : Int32} {m_outs : Int32} {m_bounds : Int32} {a_tape : Nat → Int32} {a_happened : Nat → Int64} {a_many : Nat → Int32} {a_sort : Nat → Int32} {a_one : Nat → Int32} {a_other : Nat → Int32} {a_low : Nat → Int32} {a_high : Nat → Int32} {a_begins : Nat → Int32} {a_out : Nat → Int32} {a_behind : Nat → Int32} {a_ahead : Nat → Int32} {a_most : Nat → Int32} {a_left : Nat → Int32} {a_far : Nat → Int32} {a_quarrel : Nat → Int32} {a_early : Nat → Int32} {a_earlyLast : Nat → Int32}    {res : Int32 × Int32} (hf : f_X12_octet_b12 m_thrown m_outs a_out = some res) {H : Heap} {locs : List Loc} {ls : Array Slot} (hw : Wo D ad (Aw ad 19 s.heap.size) (eR ad y m_thrown m_taped m_size m_to m_from m_kind m_number m_fault m_place m_name m_happenings m_newHappenings m_heard m_outs m_bounds a_tape a_happened a_many a_sort a_one a_other a_low a_high a_begins a_out a_behind a_ahead a_most a_left a_far a_quarrel a_early a_earlyLast) s.heap H locs) (hl : lv_has ls 2 [(0, .ref (ad 0))]) : W p l e rm_X12_octet s m args below meth c H locs 0 0 (QM_X12_octet below args s D ad y (m_taped) (m_size) (m_to) (m_from) (m_kind) (m_number) (m_fault) (m_place) (m_name) (m_happenings) (m_newHappenings) (m_heard) (m_outs) (m_bounds) (a_tape) (a_happened) (a_many) (a_sort) (a_one) (a_other) (a_low) (a_high) (a_begins) (a_out) (a_behind) (a_ahead) (a_most) (a_left) (a_far) (a_quarrel) (a_early) (a_earlyLast) res) (F0 m 12 ls []) := by
  obtain ⟨hx, hb, hr, hml, hown, hts, hlocks, hK, hst⟩ := id C0
  unfold f_X12_octet_b12 at hf
  refine lv_aload_n hx hb dX12_octet_12 rfl (lv_at hl 0 rfl) ?_
  refine lv_iconst (v := 1) hx hb dX12_octet_13 (by decide) ?_
  obtain ⟨q4, hq4, hf⟩ := bd hf
  refine g_Vi (As := [.int 1]) (rest := []) ⟨hx, hb, hml, hown, hts⟩ (k_X12_refuse hq4) (cwV 1 hts gX12_octet_X12_refuse rfl rfl rfl (by decide +kernel) ⟨Nat.le_of_ble_eq_true rfl, Nat.le_of_ble_eq_true rfl⟩) STR_ok hst hK hw rfl eR_c0 rfl rfl hl.1 rfl (Nat.le_of_ble_eq_true rfl) dX12_octet_14 ⟨Nat.zero_le _, Nat.zero_le _⟩ (fun H locs hw => ?_)
  have hw : Wo D ad (Aw ad 19 s.heap.size) (eR ad y q4.2 m_taped m_size m_to m_from m_kind m_number m_fault m_place m_name m_happenings m_newHappenings m_heard m_outs m_bounds a_tape a_happened a_many a_sort a_one a_other a_low a_high a_begins a_out a_behind a_ahead a_most a_left a_far a_quarrel a_early a_earlyLast) s.heap H locs := hw
  obtain rfl := so hf
  exact W.iret (v := q4.1) hx hb hr (fun t ht _ => g_end hw t ht) hw.2.2.2.2 dX12_octet_17
set_option maxHeartbeats 4000000 in
set_option maxRecDepth 100000 in
theorem ke_X12_octet {p : Program} {l : Launch} {e : Env} {s : State} {m : MethodId} {args : Array Value} {below : List Frame} {meth : Method} {c : Code} {D : va_G} {ad : Nat → Nat} {y : Nat → ClassId} (C0 : CXT wsX12_octet cX12_octet RX12 2 (some .int) D (tyL y) (STR ad) p s m args meth c) {m_thrown : Int32} {m_taped : Int32} {m_size : Int32} {m_to : Int32} {m_from : Int32} {m_kind : Int32} {m_number : Int32} {m_fault : Int32} {m_place : Int32} {m_name : Int64} {m_happenings : Int32} {m_newHappenings : Int32} {m_heard : Int32} {m_outs : Int32} {m_bounds : Int32} {a_tape : Nat → Int32} {a_happened : Nat → Int64} {a_many : Nat → Int32} {a_sort : Nat → Int32} {a_one : Nat → Int32} {a_other : Nat → Int32} {a_low : Nat → Int32} {a_high : Nat → Int32} {a_begins : Nat → Int32} {a_out : Nat → Int32} {a_behind : Nat → Int32} {a_ahead : Nat → Int32} {a_most : Nat → Int32} {a_left : Nat → Int32} {a_far : Nat → Int32} {a_quarrel : Nat → Int32} {a_early : Nat → Int32} {a_earlyLast : Nat → Int32} {p1 : Int32} {res : Int32 × Int32} (hf : f_X12_octet m_thrown m_outs a_out p1 = some res) {H : Heap} {locs : List Loc} {ls : Array Slot} (hw : Wo D ad (Aw ad 19 s.heap.size) (eR ad y m_thrown m_taped m_size m_to m_from m_kind m_number m_fault m_place m_name m_happenings m_newHappenings m_heard m_outs m_bounds a_tape a_happened a_many a_sort a_one a_other a_low a_high a_begins a_out a_behind a_ahead a_most a_left a_far a_quarrel a_early a_earlyLast) s.heap H locs) (hl : lv_has ls 2 [(0, .ref (ad 0)), (1, .int p1)]) : W p l e rm_X12_octet s m args below meth c H locs 0 0 (QM_X12_octet below args s D ad y (m_taped) (m_size) (m_to) (m_from) (m_kind) (m_number) (m_fault) (m_place) (m_name) (m_happenings) (m_newHappenings) (m_heard) (m_outs) (m_bounds) (a_tape) (a_happened) (a_many) (a_sort) (a_one) (a_other) (a_low) (a_high) (a_begins) (a_out) (a_behind) (a_ahead) (a_most) (a_left) (a_far) (a_quarrel) (a_early) (a_earlyLast) res) (F0 m 0 ls []) := by
  obtain ⟨hx, hb, hr, hml, hown, hts, hlocks, hK, hst⟩ := id C0
  have i_X12 : ∀ w ∈ u_ws RX12 TX12 33, w ∈ wsX12_octet := by decide +kernel
  have L_200 := hts (.fieldLink RX12 200 "CaseOrderModel" "outs" "I") (by decide +kernel)
  have L_70 := hts (.fieldLink RX12 70 "CaseOrderModel" "thrown" "I") (by decide +kernel)
  have L_42 := hts (.fieldLink RX12 42 "CaseOrderModel" "out" "[I") (by decide +kernel)
  unfold f_X12_octet at hf
  refine lv_iload_n hx hb dX12_octet_0 rfl (lv_at hl 1 rfl) ?_
  refine lv_if_lt (tgt := 12) hx hb dX12_octet_1 (by decide) (fun c3 => ?_) (fun c3 => ?_)
  · have hf := it_p c3 hf
    exact kb_X12_octet_b12 C0 hf hw (lv_sub hl [0] rfl)
  · have hf := it_n c3 hf
    refine lv_iload_n hx hb dX12_octet_4 rfl (lv_at hl 1 rfl) ?_
    refine lv_aload_n hx hb dX12_octet_5 rfl (lv_at hl 0 rfl) ?_
    refine g_get hx hb hts i_X12 hown hK hw 0 eR_c0 rfl 23 (by decide) L_200 (fun _ h => h) rfl dX12_octet_6 ?_
    refine lv_icmp_lt (tgt := 18) hx hb dX12_octet_9 (by decide) (fun c5 => ?_) (fun c5 => ?_)
    · have hf := it_p c5 hf
      refine lv_aload_n hx hb dX12_octet_18 rfl (lv_at hl 0 rfl) ?_
      refine lv_iconst (v := 0) hx hb dX12_octet_19 (by decide) ?_
      refine g_put (ty := .int) hx hb hts i_X12 tyX12 tyX12_ok nmX12 hown hK hw 0 eR_c0 rfl 0 (by decide) L_70 (fun _ h => h) rfl (by decide +kernel) rfl rfl (Nat.le_of_ble_eq_true rfl) dX12_octet_20 (fun H locs hw => ?_)
      have hw : Wo D ad (Aw ad 19 s.heap.size) (eR ad y 0 m_taped m_size m_to m_from m_kind m_number m_fault m_place m_name m_happenings m_newHappenings m_heard m_outs m_bounds a_tape a_happened a_many a_sort a_one a_other a_low a_high a_begins a_out a_behind a_ahead a_most a_left a_far a_quarrel a_early a_earlyLast) s.heap H locs := hw
      refine lv_aload_n hx hb dX12_octet_23 rfl (lv_at hl 0 rfl) ?_
      refine g_get hx hb hts i_X12 hown hK hw 0 eR_c0 rfl 22 (by decide) L_42 (fun _ h => h) rfl dX12_octet_24 ?_
      refine lv_iload_n hx hb dX12_octet_27 rfl (lv_at hl 1 rfl) ?_
      obtain ⟨g6, hf⟩ := gIn_some hf
      refine g_iald hx hb hK hw 10 1 eR_c10 rfl g6 dX12_octet_28 ?_
      obtain rfl := so hf
      exact W.iret (v := (a_out (Int32.toNatClampNeg p1))) hx hb hr (fun t ht _ => g_end hw t ht) hw.2.2.2.2 dX12_octet_29
    · have hf := it_n c5 hf
      exact kb_X12_octet_b12 C0 hf hw (lv_sub hl [0] rfl)
set_option maxHeartbeats 4000000 in
theorem k_X12_octet {l : Launch} {D : va_G} {ad : Nat → Nat} {y : Nat → ClassId} {m_thrown : Int32} {m_taped : Int32} {m_size : Int32} {m_to : Int32} {m_from : Int32} {m_kind : Int32} {m_number : Int32} {m_fault : Int32} {m_place : Int32} {m_name : Int64} {m_happenings : Int32} {m_newHappenings : Int32} {m_heard : Int32} {m_outs : Int32} {m_bounds : Int32} {a_tape : Nat → Int32} {a_happened : Nat → Int64} {a_many : Nat → Int32} {a_sort : Nat → Int32} {a_one : Nat → Int32} {a_other : Nat → Int32} {a_low : Nat → Int32} {a_high : Nat → Int32} {a_begins : Nat → Int32} {a_out : Nat → Int32} {a_behind : Nat → Int32} {a_ahead : Nat → Int32} {a_most : Nat → Int32} {a_left : Nat → Int32} {a_far : Nat → Int32} {a_quarrel : Nat → Int32} {a_early : Nat → Int32} {a_earlyLast : Nat → Int32} {p1 : Int32} {res : Int32 × Int32} (hf : f_X12_octet m_thrown m_outs a_out p1 = some res) : CTi l yX12_octet wsX12_octet rm_X12_octet D ad 19 (tyL y) (STR ad) (eR ad y m_thrown m_taped m_size m_to m_from m_kind m_number m_fault m_place m_name m_happenings m_newHappenings m_heard m_outs m_bounds a_tape a_happened a_many a_sort a_one a_other a_low a_high a_begins a_out a_behind a_ahead a_most a_left a_far a_quarrel a_early a_earlyLast) (eR ad y res.2 m_taped m_size m_to m_from m_kind m_number m_fault m_place m_name m_happenings m_newHappenings m_heard m_outs m_bounds a_tape a_happened a_many a_sort a_one a_other a_low a_high a_begins a_out a_behind a_ahead a_most a_left a_far a_quarrel a_early a_earlyLast) [.ref (ad 0), .int p1] res.1 := by
  intro sz
  refine Met.ofW (cc := cX12_octet) (maxL := 2) (ret := (some .int)) (by decide) rfl ?_
  intro p e s m args below meth c s₁ B hml hv
  obtain ⟨rfl, hsz, hP, hK, hD0, hst⟩ := hv
  subst hsz
  have C0 : CXT wsX12_octet cX12_octet RX12 2 (some .int) D (tyL y) (STR ad) p s m ([.ref (ad 0), .int p1] : List Value).toArray meth c := ⟨B.exec, B.bytes, B.returns, hml, findClass_of_methodNamed B.named, atoms_spec (ws := wsX12_octet) B.pre, B.notSynchronized, hK, hst⟩
  have hw := g_start (n := 19) rfl hP hD0
  have hl := lv_entry ([.ref (ad 0), .int p1]) (n := 2) (Nat.le_of_ble_eq_true rfl)
  rw [lg_entry_eq]
  generalize (lg_sl ([.ref (ad 0), .int p1]) ++ List.replicate (2 - (lg_sl ([.ref (ad 0), .int p1])).length) Slot.unset).toArray = ls at hl ⊢
  have hl : lv_has ls 2 [(0, .ref (ad 0)), (1, .int p1)] := hl
  exact ke_X12_octet C0 hf hw hl
abbrev rm_X12_atMost : Room := { frames := 0, cells := 0, slots := 0, locals := 0 }
abbrev QM_X12_atMost (below : List Frame) (args : Array Value) (s : State) (D : va_G) (ad : Nat → Nat) (y : Nat → ClassId) (m_thrown : Int32) (m_taped : Int32) (m_size : Int32) (m_to : Int32) (m_from : Int32) (m_kind : Int32) (m_number : Int32) (m_fault : Int32) (m_place : Int32) (m_name : Int64) (m_happenings : Int32) (m_newHappenings : Int32) (m_heard : Int32) (m_outs : Int32) (a_tape : Nat → Int32) (a_happened : Nat → Int64) (a_many : Nat → Int32) (a_sort : Nat → Int32) (a_one : Nat → Int32) (a_other : Nat → Int32) (a_low : Nat → Int32) (a_high : Nat → Int32) (a_begins : Nat → Int32) (a_out : Nat → Int32) (a_left : Nat → Int32) (a_far : Nat → Int32) (a_quarrel : Nat → Int32) (a_early : Nat → Int32) (a_earlyLast : Nat → Int32) (res : Int32 × (Nat → Int32) × (Nat → Int32) × (Nat → Int32)) : State → Prop := MQ below (va_Qv (fun (_ : Unit) => True) (fun _ t => va_P D vwCl (wls ad (eR ad y m_thrown m_taped m_size m_to m_from m_kind m_number m_fault m_place m_name m_happenings m_newHappenings m_heard m_outs res.1 a_tape a_happened a_many a_sort a_one a_other a_low a_high a_begins a_out res.2.1 res.2.2.1 res.2.2.2 a_left a_far a_quarrel a_early a_earlyLast)) t.heap) (Aw ad 19 s.heap.size)) args s 0 0 (Aw ad 19 s.heap.size)
set_option maxHeartbeats 4000000 in
set_option maxRecDepth 100000 in
theorem ke_X12_atMost {p : Program} {l : Launch} {e : Env} {s : State} {m : MethodId} {args : Array Value} {below : List Frame} {meth : Method} {c : Code} {D : va_G} {ad : Nat → Nat} {y : Nat → ClassId} (C0 : CXT wsX12_atMost cX12_atMost RX12 4 none D (tyL y) (STR ad) p s m args meth c) {m_thrown : Int32} {m_taped : Int32} {m_size : Int32} {m_to : Int32} {m_from : Int32} {m_kind : Int32} {m_number : Int32} {m_fault : Int32} {m_place : Int32} {m_name : Int64} {m_happenings : Int32} {m_newHappenings : Int32} {m_heard : Int32} {m_outs : Int32} {m_bounds : Int32} {a_tape : Nat → Int32} {a_happened : Nat → Int64} {a_many : Nat → Int32} {a_sort : Nat → Int32} {a_one : Nat → Int32} {a_other : Nat → Int32} {a_low : Nat → Int32} {a_high : Nat → Int32} {a_begins : Nat → Int32} {a_out : Nat → Int32} {a_behind : Nat → Int32} {a_ahead : Nat → Int32} {a_most : Nat → Int32} {a_left : Nat → Int32} {a_far : Nat → Int32} {a_quarrel : Nat → Int32} {a_early : Nat → Int32} {a_earlyLast : Nat → Int32} {p1 : Int32} {p2 : Int32} {p3 : Int32} {res : Int32 × (Nat → Int32) × (Nat → Int32) × (Nat → Int32)} (hf : f_X12_atMost m_bounds a_behind a_ahead a_most p1 p2 p3 = some res) {H : Heap} {locs : List Loc} {ls : Array Slot} (hw : Wo D ad (Aw ad 19 s.heap.size) (eR ad y m_thrown m_taped m_size m_to m_from m_kind m_number m_fault m_place m_name m_happenings m_newHappenings m_heard m_outs m_bounds a_tape a_happened a_many a_sort a_one a_other a_low a_high a_begins a_out a_behind a_ahead a_most a_left a_far a_quarrel a_early a_earlyLast) s.heap H locs) (hl : lv_has ls 4 [(0, .ref (ad 0)), (1, .int p1), (2, .int p2), (3, .int p3)]) : W p l e rm_X12_atMost s m args below meth c H locs 0 0 (QM_X12_atMost below args s D ad y (m_thrown) (m_taped) (m_size) (m_to) (m_from) (m_kind) (m_number) (m_fault) (m_place) (m_name) (m_happenings) (m_newHappenings) (m_heard) (m_outs) (a_tape) (a_happened) (a_many) (a_sort) (a_one) (a_other) (a_low) (a_high) (a_begins) (a_out) (a_left) (a_far) (a_quarrel) (a_early) (a_earlyLast) res) (F0 m 0 ls []) := by
  obtain ⟨hx, hb, hr, hml, hown, hts, hlocks, hK, hst⟩ := id C0
  have i_X12 : ∀ w ∈ u_ws RX12 TX12 33, w ∈ wsX12_atMost := by decide +kernel
  have L_48 := hts (.fieldLink RX12 48 "CaseOrderModel" "ahead" "[I") (by decide +kernel)
  have L_203 := hts (.fieldLink RX12 203 "CaseOrderModel" "bounds" "I") (by decide +kernel)
  have L_45 := hts (.fieldLink RX12 45 "CaseOrderModel" "behind" "[I") (by decide +kernel)
  have L_51 := hts (.fieldLink RX12 51 "CaseOrderModel" "most" "[I") (by decide +kernel)
  unfold f_X12_atMost at hf
  refine lv_aload_n hx hb dX12_atMost_0 rfl (lv_at hl 0 rfl) ?_
  refine g_get hx hb hts i_X12 hown hK hw 0 eR_c0 rfl 25 (by decide) L_48 (fun _ h => h) rfl dX12_atMost_1 ?_
  refine lv_aload_n hx hb dX12_atMost_4 rfl (lv_at hl 0 rfl) ?_
  refine g_get hx hb hts i_X12 hown hK hw 0 eR_c0 rfl 27 (by decide) L_203 (fun _ h => h) rfl dX12_atMost_5 ?_
  refine lv_iload_n hx hb dX12_atMost_8 rfl (lv_at hl 1 rfl) ?_
  obtain ⟨g4, hf⟩ := gIn_some hf
  refine g_iast hx hb hK hw 12 1 eR_c12 rfl g4 dX12_atMost_9 (fun H locs hw => ?_)
  have hw : Wo D ad (Aw ad 19 s.heap.size) (eR ad y m_thrown m_taped m_size m_to m_from m_kind m_number m_fault m_place m_name m_happenings m_newHappenings m_heard m_outs m_bounds a_tape a_happened a_many a_sort a_one a_other a_low a_high a_begins a_out a_behind (upd a_ahead (Int32.toNatClampNeg m_bounds) p1) a_most a_left a_far a_quarrel a_early a_earlyLast) s.heap H locs := hw
  refine lv_aload_n hx hb dX12_atMost_10 rfl (lv_at hl 0 rfl) ?_
  refine g_get hx hb hts i_X12 hown hK hw 0 eR_c0 rfl 24 (by decide) L_45 (fun _ h => h) rfl dX12_atMost_11 ?_
  refine lv_aload_n hx hb dX12_atMost_14 rfl (lv_at hl 0 rfl) ?_
  refine g_get hx hb hts i_X12 hown hK hw 0 eR_c0 rfl 27 (by decide) L_203 (fun _ h => h) rfl dX12_atMost_15 ?_
  refine lv_iload_n hx hb dX12_atMost_18 rfl (lv_at hl 2 rfl) ?_
  obtain ⟨g5, hf⟩ := gIn_some hf
  refine g_iast hx hb hK hw 11 1 eR_c11 rfl g5 dX12_atMost_19 (fun H locs hw => ?_)
  have hw : Wo D ad (Aw ad 19 s.heap.size) (eR ad y m_thrown m_taped m_size m_to m_from m_kind m_number m_fault m_place m_name m_happenings m_newHappenings m_heard m_outs m_bounds a_tape a_happened a_many a_sort a_one a_other a_low a_high a_begins a_out (upd a_behind (Int32.toNatClampNeg m_bounds) p2) (upd a_ahead (Int32.toNatClampNeg m_bounds) p1) a_most a_left a_far a_quarrel a_early a_earlyLast) s.heap H locs := hw
  refine lv_aload_n hx hb dX12_atMost_20 rfl (lv_at hl 0 rfl) ?_
  refine g_get hx hb hts i_X12 hown hK hw 0 eR_c0 rfl 26 (by decide) L_51 (fun _ h => h) rfl dX12_atMost_21 ?_
  refine lv_aload_n hx hb dX12_atMost_24 rfl (lv_at hl 0 rfl) ?_
  refine g_get hx hb hts i_X12 hown hK hw 0 eR_c0 rfl 27 (by decide) L_203 (fun _ h => h) rfl dX12_atMost_25 ?_
  refine lv_iload_n hx hb dX12_atMost_28 rfl (lv_at hl 3 rfl) ?_
  obtain ⟨g6, hf⟩ := gIn_some hf
  refine g_iast hx hb hK hw 13 1 eR_c13 rfl g6 dX12_atMost_29 (fun H locs hw => ?_)
  have hw : Wo D ad (Aw ad 19 s.heap.size) (eR ad y m_thrown m_taped m_size m_to m_from m_kind m_number m_fault m_place m_name m_happenings m_newHappenings m_heard m_outs m_bounds a_tape a_happened a_many a_sort a_one a_other a_low a_high a_begins a_out (upd a_behind (Int32.toNatClampNeg m_bounds) p2) (upd a_ahead (Int32.toNatClampNeg m_bounds) p1) (upd a_most (Int32.toNatClampNeg m_bounds) p3) a_left a_far a_quarrel a_early a_earlyLast) s.heap H locs := hw
  refine lv_aload_n hx hb dX12_atMost_30 rfl (lv_at hl 0 rfl) ?_
  refine lv_dup hx hb dX12_atMost_31 rfl ?_
  refine g_get hx hb hts i_X12 hown hK hw 0 eR_c0 rfl 27 (by decide) L_203 (fun _ h => h) rfl dX12_atMost_32 ?_
  refine lv_iconst (v := 1) hx hb dX12_atMost_35 (by decide) ?_
  refine lv_iadd hx hb dX12_atMost_36 ?_
  refine g_put (ty := .int) hx hb hts i_X12 tyX12 tyX12_ok nmX12 hown hK hw 0 eR_c0 rfl 27 (by decide) L_203 (fun _ h => h) rfl (by decide +kernel) rfl rfl (Nat.le_of_ble_eq_true rfl) dX12_atMost_37 (fun H locs hw => ?_)
  have hw : Wo D ad (Aw ad 19 s.heap.size) (eR ad y m_thrown m_taped m_size m_to m_from m_kind m_number m_fault m_place m_name m_happenings m_newHappenings m_heard m_outs (m_bounds + 1) a_tape a_happened a_many a_sort a_one a_other a_low a_high a_begins a_out (upd a_behind (Int32.toNatClampNeg m_bounds) p2) (upd a_ahead (Int32.toNatClampNeg m_bounds) p1) (upd a_most (Int32.toNatClampNeg m_bounds) p3) a_left a_far a_quarrel a_early a_earlyLast) s.heap H locs := hw
  obtain rfl := so hf
  exact W.vret hx hb hr (fun t ht _ => g_endv hw t ht) hw.2.2.2.2 dX12_atMost_40
set_option maxHeartbeats 4000000 in
theorem k_X12_atMost {l : Launch} {D : va_G} {ad : Nat → Nat} {y : Nat → ClassId} {m_thrown : Int32} {m_taped : Int32} {m_size : Int32} {m_to : Int32} {m_from : Int32} {m_kind : Int32} {m_number : Int32} {m_fault : Int32} {m_place : Int32} {m_name : Int64} {m_happenings : Int32} {m_newHappenings : Int32} {m_heard : Int32} {m_outs : Int32} {m_bounds : Int32} {a_tape : Nat → Int32} {a_happened : Nat → Int64} {a_many : Nat → Int32} {a_sort : Nat → Int32} {a_one : Nat → Int32} {a_other : Nat → Int32} {a_low : Nat → Int32} {a_high : Nat → Int32} {a_begins : Nat → Int32} {a_out : Nat → Int32} {a_behind : Nat → Int32} {a_ahead : Nat → Int32} {a_most : Nat → Int32} {a_left : Nat → Int32} {a_far : Nat → Int32} {a_quarrel : Nat → Int32} {a_early : Nat → Int32} {a_earlyLast : Nat → Int32} {p1 : Int32} {p2 : Int32} {p3 : Int32} {res : Int32 × (Nat → Int32) × (Nat → Int32) × (Nat → Int32)} (hf : f_X12_atMost m_bounds a_behind a_ahead a_most p1 p2 p3 = some res) : CTv l yX12_atMost wsX12_atMost rm_X12_atMost D ad 19 (tyL y) (STR ad) (eR ad y m_thrown m_taped m_size m_to m_from m_kind m_number m_fault m_place m_name m_happenings m_newHappenings m_heard m_outs m_bounds a_tape a_happened a_many a_sort a_one a_other a_low a_high a_begins a_out a_behind a_ahead a_most a_left a_far a_quarrel a_early a_earlyLast) (eR ad y m_thrown m_taped m_size m_to m_from m_kind m_number m_fault m_place m_name m_happenings m_newHappenings m_heard m_outs res.1 a_tape a_happened a_many a_sort a_one a_other a_low a_high a_begins a_out res.2.1 res.2.2.1 res.2.2.2 a_left a_far a_quarrel a_early a_earlyLast) [.ref (ad 0), .int p1, .int p2, .int p3] := by
  intro sz
  refine Met.ofW (cc := cX12_atMost) (maxL := 4) (ret := none) (by decide) rfl ?_
  intro p e s m args below meth c s₁ B hml hv
  obtain ⟨rfl, hsz, hP, hK, hD0, hst⟩ := hv
  subst hsz
  have C0 : CXT wsX12_atMost cX12_atMost RX12 4 none D (tyL y) (STR ad) p s m ([.ref (ad 0), .int p1, .int p2, .int p3] : List Value).toArray meth c := ⟨B.exec, B.bytes, B.returns, hml, findClass_of_methodNamed B.named, atoms_spec (ws := wsX12_atMost) B.pre, B.notSynchronized, hK, hst⟩
  have hw := g_start (n := 19) rfl hP hD0
  have hl := lv_entry ([.ref (ad 0), .int p1, .int p2, .int p3]) (n := 4) (Nat.le_of_ble_eq_true rfl)
  rw [lg_entry_eq]
  generalize (lg_sl ([.ref (ad 0), .int p1, .int p2, .int p3]) ++ List.replicate (4 - (lg_sl ([.ref (ad 0), .int p1, .int p2, .int p3])).length) Slot.unset).toArray = ls at hl ⊢
  have hl : lv_has ls 4 [(0, .ref (ad 0)), (1, .int p1), (2, .int p2), (3, .int p3)] := hl
  exact ke_X12_atMost C0 hf hw hl
abbrev rm_X12_span : Room := { frames := 1, cells := 0, slots := 0, locals := 23 }
abbrev QM_X12_span (below : List Frame) (args : Array Value) (s : State) (D : va_G) (ad : Nat → Nat) (y : Nat → ClassId) (m_thrown : Int32) (m_taped : Int32) (m_size : Int32) (m_to : Int32) (m_from : Int32) (m_kind : Int32) (m_number : Int32) (m_fault : Int32) (m_place : Int32) (m_name : Int64) (m_happenings : Int32) (m_newHappenings : Int32) (m_heard : Int32) (m_outs : Int32) (a_tape : Nat → Int32) (a_happened : Nat → Int64) (a_many : Nat → Int32) (a_sort : Nat → Int32) (a_one : Nat → Int32) (a_other : Nat → Int32) (a_low : Nat → Int32) (a_high : Nat → Int32) (a_begins : Nat → Int32) (a_out : Nat → Int32) (a_left : Nat → Int32) (a_far : Nat → Int32) (a_quarrel : Nat → Int32) (a_early : Nat → Int32) (a_earlyLast : Nat → Int32) (res : Int32 × (Nat → Int32) × (Nat → Int32) × (Nat → Int32)) : State → Prop := MQ below (va_Qv (fun (_ : Unit) => True) (fun _ t => va_P D vwCl (wls ad (eR ad y m_thrown m_taped m_size m_to m_from m_kind m_number m_fault m_place m_name m_happenings m_newHappenings m_heard m_outs res.1 a_tape a_happened a_many a_sort a_one a_other a_low a_high a_begins a_out res.2.1 res.2.2.1 res.2.2.2 a_left a_far a_quarrel a_early a_earlyLast)) t.heap) (Aw ad 19 s.heap.size)) args s 0 0 (Aw ad 19 s.heap.size)
set_option maxHeartbeats 4000000 in
set_option maxRecDepth 100000 in
theorem ke_X12_span {p : Program} {l : Launch} {e : Env} {s : State} {m : MethodId} {args : Array Value} {below : List Frame} {meth : Method} {c : Code} {D : va_G} {ad : Nat → Nat} {y : Nat → ClassId} (C0 : CXT wsX12_span cX12_span RX12 5 none D (tyL y) (STR ad) p s m args meth c) {m_thrown : Int32} {m_taped : Int32} {m_size : Int32} {m_to : Int32} {m_from : Int32} {m_kind : Int32} {m_number : Int32} {m_fault : Int32} {m_place : Int32} {m_name : Int64} {m_happenings : Int32} {m_newHappenings : Int32} {m_heard : Int32} {m_outs : Int32} {m_bounds : Int32} {a_tape : Nat → Int32} {a_happened : Nat → Int64} {a_many : Nat → Int32} {a_sort : Nat → Int32} {a_one : Nat → Int32} {a_other : Nat → Int32} {a_low : Nat → Int32} {a_high : Nat → Int32} {a_begins : Nat → Int32} {a_out : Nat → Int32} {a_behind : Nat → Int32} {a_ahead : Nat → Int32} {a_most : Nat → Int32} {a_left : Nat → Int32} {a_far : Nat → Int32} {a_quarrel : Nat → Int32} {a_early : Nat → Int32} {a_earlyLast : Nat → Int32} {p1 : Int32} {p2 : Int32} {p3 : Int32} {p4 : Int32} {res : Int32 × (Nat → Int32) × (Nat → Int32) × (Nat → Int32)} (hf : f_X12_span m_bounds a_behind a_ahead a_most p1 p2 p3 p4 = some res) {H : Heap} {locs : List Loc} {ls : Array Slot} (hw : Wo D ad (Aw ad 19 s.heap.size) (eR ad y m_thrown m_taped m_size m_to m_from m_kind m_number m_fault m_place m_name m_happenings m_newHappenings m_heard m_outs m_bounds a_tape a_happened a_many a_sort a_one a_other a_low a_high a_begins a_out a_behind a_ahead a_most a_left a_far a_quarrel a_early a_earlyLast) s.heap H locs) (hl : lv_has ls 5 [(0, .ref (ad 0)), (1, .int p1), (2, .int p2), (3, .int p3), (4, .int p4)]) : W p l e rm_X12_span s m args below meth c H locs 0 0 (QM_X12_span below args s D ad y (m_thrown) (m_taped) (m_size) (m_to) (m_from) (m_kind) (m_number) (m_fault) (m_place) (m_name) (m_happenings) (m_newHappenings) (m_heard) (m_outs) (a_tape) (a_happened) (a_many) (a_sort) (a_one) (a_other) (a_low) (a_high) (a_begins) (a_out) (a_left) (a_far) (a_quarrel) (a_early) (a_earlyLast) res) (F0 m 0 ls []) := by
  obtain ⟨hx, hb, hr, hml, hown, hts, hlocks, hK, hst⟩ := id C0
  unfold f_X12_span at hf
  refine lv_aload_n hx hb dX12_span_0 rfl (lv_at hl 0 rfl) ?_
  refine lv_iload_n hx hb dX12_span_1 rfl (lv_at hl 1 rfl) ?_
  refine lv_iload_n hx hb dX12_span_2 rfl (lv_at hl 2 rfl) ?_
  refine lv_iload hx hb dX12_span_3 (lv_at hl 4 rfl) ?_
  obtain ⟨q3, hq3, hf⟩ := bd hf
  refine g_Vv (As := [.int p1, .int p2, .int p4]) (rest := []) ⟨hx, hb, hml, hown, hts⟩ (k_X12_atMost hq3) (cwV 3 hts gX12_span_X12_atMost rfl rfl rfl (by decide +kernel) ⟨Nat.le_of_ble_eq_true rfl, Nat.le_of_ble_eq_true rfl⟩) STR_ok hst hK hw rfl eR_c0 rfl rfl hl.1 rfl (Nat.le_of_ble_eq_true rfl) dX12_span_5 ⟨Nat.zero_le _, Nat.zero_le _⟩ (fun H locs hw => ?_)
  have hw : Wo D ad (Aw ad 19 s.heap.size) (eR ad y m_thrown m_taped m_size m_to m_from m_kind m_number m_fault m_place m_name m_happenings m_newHappenings m_heard m_outs q3.1 a_tape a_happened a_many a_sort a_one a_other a_low a_high a_begins a_out q3.2.1 q3.2.2.1 q3.2.2.2 a_left a_far a_quarrel a_early a_earlyLast) s.heap H locs := hw
  refine lv_aload_n hx hb dX12_span_8 rfl (lv_at hl 0 rfl) ?_
  refine lv_iload_n hx hb dX12_span_9 rfl (lv_at hl 2 rfl) ?_
  refine lv_iload_n hx hb dX12_span_10 rfl (lv_at hl 1 rfl) ?_
  refine lv_iload_n hx hb dX12_span_11 rfl (lv_at hl 3 rfl) ?_
  refine lv_ineg hx hb dX12_span_12 ?_
  obtain ⟨q4, hq4, hf⟩ := bd hf
  refine g_Vv (As := [.int p2, .int p1, .int (-p3)]) (rest := []) ⟨hx, hb, hml, hown, hts⟩ (k_X12_atMost hq4) (cwV 3 hts gX12_span_X12_atMost rfl rfl rfl (by decide +kernel) ⟨Nat.le_of_ble_eq_true rfl, Nat.le_of_ble_eq_true rfl⟩) STR_ok hst hK hw rfl eR_c0 rfl rfl hl.1 rfl (Nat.le_of_ble_eq_true rfl) dX12_span_13 ⟨Nat.zero_le _, Nat.zero_le _⟩ (fun H locs hw => ?_)
  have hw : Wo D ad (Aw ad 19 s.heap.size) (eR ad y m_thrown m_taped m_size m_to m_from m_kind m_number m_fault m_place m_name m_happenings m_newHappenings m_heard m_outs q4.1 a_tape a_happened a_many a_sort a_one a_other a_low a_high a_begins a_out q4.2.1 q4.2.2.1 q4.2.2.2 a_left a_far a_quarrel a_early a_earlyLast) s.heap H locs := hw
  obtain rfl := so hf
  exact W.vret hx hb hr (fun t ht _ => g_endv hw t ht) hw.2.2.2.2 dX12_span_16
set_option maxHeartbeats 4000000 in
theorem k_X12_span {l : Launch} {D : va_G} {ad : Nat → Nat} {y : Nat → ClassId} {m_thrown : Int32} {m_taped : Int32} {m_size : Int32} {m_to : Int32} {m_from : Int32} {m_kind : Int32} {m_number : Int32} {m_fault : Int32} {m_place : Int32} {m_name : Int64} {m_happenings : Int32} {m_newHappenings : Int32} {m_heard : Int32} {m_outs : Int32} {m_bounds : Int32} {a_tape : Nat → Int32} {a_happened : Nat → Int64} {a_many : Nat → Int32} {a_sort : Nat → Int32} {a_one : Nat → Int32} {a_other : Nat → Int32} {a_low : Nat → Int32} {a_high : Nat → Int32} {a_begins : Nat → Int32} {a_out : Nat → Int32} {a_behind : Nat → Int32} {a_ahead : Nat → Int32} {a_most : Nat → Int32} {a_left : Nat → Int32} {a_far : Nat → Int32} {a_quarrel : Nat → Int32} {a_early : Nat → Int32} {a_earlyLast : Nat → Int32} {p1 : Int32} {p2 : Int32} {p3 : Int32} {p4 : Int32} {res : Int32 × (Nat → Int32) × (Nat → Int32) × (Nat → Int32)} (hf : f_X12_span m_bounds a_behind a_ahead a_most p1 p2 p3 p4 = some res) : CTv l yX12_span wsX12_span rm_X12_span D ad 19 (tyL y) (STR ad) (eR ad y m_thrown m_taped m_size m_to m_from m_kind m_number m_fault m_place m_name m_happenings m_newHappenings m_heard m_outs m_bounds a_tape a_happened a_many a_sort a_one a_other a_low a_high a_begins a_out a_behind a_ahead a_most a_left a_far a_quarrel a_early a_earlyLast) (eR ad y m_thrown m_taped m_size m_to m_from m_kind m_number m_fault m_place m_name m_happenings m_newHappenings m_heard m_outs res.1 a_tape a_happened a_many a_sort a_one a_other a_low a_high a_begins a_out res.2.1 res.2.2.1 res.2.2.2 a_left a_far a_quarrel a_early a_earlyLast) [.ref (ad 0), .int p1, .int p2, .int p3, .int p4] := by
  intro sz
  refine Met.ofW (cc := cX12_span) (maxL := 5) (ret := none) (by decide) rfl ?_
  intro p e s m args below meth c s₁ B hml hv
  obtain ⟨rfl, hsz, hP, hK, hD0, hst⟩ := hv
  subst hsz
  have C0 : CXT wsX12_span cX12_span RX12 5 none D (tyL y) (STR ad) p s m ([.ref (ad 0), .int p1, .int p2, .int p3, .int p4] : List Value).toArray meth c := ⟨B.exec, B.bytes, B.returns, hml, findClass_of_methodNamed B.named, atoms_spec (ws := wsX12_span) B.pre, B.notSynchronized, hK, hst⟩
  have hw := g_start (n := 19) rfl hP hD0
  have hl := lv_entry ([.ref (ad 0), .int p1, .int p2, .int p3, .int p4]) (n := 5) (Nat.le_of_ble_eq_true rfl)
  rw [lg_entry_eq]
  generalize (lg_sl ([.ref (ad 0), .int p1, .int p2, .int p3, .int p4]) ++ List.replicate (5 - (lg_sl ([.ref (ad 0), .int p1, .int p2, .int p3, .int p4])).length) Slot.unset).toArray = ls at hl ⊢
  have hl : lv_has ls 5 [(0, .ref (ad 0)), (1, .int p1), (2, .int p2), (3, .int p3), (4, .int p4)] := hl
  exact ke_X12_span C0 hf hw hl
abbrev rm_X12_say : Room := { frames := 2, cells := 0, slots := 0, locals := 47 }
abbrev QM_X12_say (below : List Frame) (args : Array Value) (s : State) (D : va_G) (ad : Nat → Nat) (y : Nat → ClassId) (m_thrown : Int32) (m_taped : Int32) (m_size : Int32) (m_to : Int32) (m_from : Int32) (m_kind : Int32) (m_number : Int32) (m_fault : Int32) (m_place : Int32) (m_name : Int64) (m_happenings : Int32) (m_newHappenings : Int32) (m_heard : Int32) (m_outs : Int32) (a_tape : Nat → Int32) (a_happened : Nat → Int64) (a_many : Nat → Int32) (a_sort : Nat → Int32) (a_one : Nat → Int32) (a_other : Nat → Int32) (a_low : Nat → Int32) (a_high : Nat → Int32) (a_begins : Nat → Int32) (a_out : Nat → Int32) (a_left : Nat → Int32) (a_far : Nat → Int32) (a_quarrel : Nat → Int32) (a_early : Nat → Int32) (a_earlyLast : Nat → Int32) (res : Int32 × (Nat → Int32) × (Nat → Int32) × (Nat → Int32)) : State → Prop := MQ below (va_Qv (fun (_ : Unit) => True) (fun _ t => va_P D vwCl (wls ad (eR ad y m_thrown m_taped m_size m_to m_from m_kind m_number m_fault m_place m_name m_happenings m_newHappenings m_heard m_outs res.1 a_tape a_happened a_many a_sort a_one a_other a_low a_high a_begins a_out res.2.1 res.2.2.1 res.2.2.2 a_left a_far a_quarrel a_early a_earlyLast)) t.heap) (Aw ad 19 s.heap.size)) args s 0 0 (Aw ad 19 s.heap.size)
set_option maxHeartbeats 4000000 in
set_option maxRecDepth 100000 in
theorem kb_X12_say_b215 {p : Program} {l : Launch} {e : Env} {s : State} {m : MethodId} {args : Array Value} {below : List Frame} {meth : Method} {c : Code} {D : va_G} {ad : Nat → Nat} {y : Nat → ClassId} (C0 : CXT wsX12_say cX12_say RX12 5 none D (tyL y) (STR ad) p s m args meth c) {m_thrown : Int32} {m_taped : Int32} {m_size : Int32} {m_to : Int32} {m_from : Int32} {m_kind : Int32} {m_number : Int32} {m_fault : Int32} {m_place : Int32} {m_name : Int64} {m_happenings : Int32} {m_newHappenings : Int32} {m_heard : Int32} {m_outs : Int32} {m_bounds : Int32} {a_tape : Nat → Int32} {a_happened : Nat → Int64} {a_many : Nat → Int32} {a_sort : Nat → Int32} {a_one : Nat → Int32} {a_other : Nat → Int32} {a_low : Nat → Int32} {a_high : Nat → Int32} {a_begins : Nat → Int32} {a_out : Nat → Int32} {a_behind : Nat → Int32} {a_ahead : Nat → Int32} {a_most : Nat → Int32} {a_left : Nat → Int32} {a_far : Nat → Int32} {a_quarrel : Nat → Int32} {a_early : Nat → Int32} {a_earlyLast : Nat → Int32}  {w0 : Int32} {w1 : Int32} {w2 : Int32} {w3 : Int32}  {res : Int32 × (Nat → Int32) × (Nat → Int32) × (Nat → Int32)} (hf : f_X12_say_b215 m_bounds a_sort a_one a_other a_low a_high a_behind a_ahead a_most w0 w1 w2 w3 = some res) {H : Heap} {locs : List Loc} {ls : Array Slot} (hw : Wo D ad (Aw ad 19 s.heap.size) (eR ad y m_thrown m_taped m_size m_to m_from m_kind m_number m_fault m_place m_name m_happenings m_newHappenings m_heard m_outs m_bounds a_tape a_happened a_many a_sort a_one a_other a_low a_high a_begins a_out a_behind a_ahead a_most a_left a_far a_quarrel a_early a_earlyLast) s.heap H locs) (hl : lv_has ls 5 []) : W p l e rm_X12_say s m args below meth c H locs 0 0 (QM_X12_say below args s D ad y (m_thrown) (m_taped) (m_size) (m_to) (m_from) (m_kind) (m_number) (m_fault) (m_place) (m_name) (m_happenings) (m_newHappenings) (m_heard) (m_outs) (a_tape) (a_happened) (a_many) (a_sort) (a_one) (a_other) (a_low) (a_high) (a_begins) (a_out) (a_left) (a_far) (a_quarrel) (a_early) (a_earlyLast) res) (F0 m 215 ls [.int w0, .int w1, .int w2, .int w3, .ref (ad 0)]) := by
  obtain ⟨hx, hb, hr, hml, hown, hts, hlocks, hK, hst⟩ := id C0
  unfold f_X12_say_b215 at hf
  obtain ⟨q62, hq62, hf⟩ := bd hf
  refine g_Vv (As := [.int w3, .int w2, .int w1, .int w0]) (rest := []) ⟨hx, hb, hml, hown, hts⟩ (k_X12_span hq62) (cwV 4 hts gX12_say_X12_span rfl rfl rfl (by decide +kernel) ⟨Nat.le_of_ble_eq_true rfl, Nat.le_of_ble_eq_true rfl⟩) STR_ok hst hK hw rfl eR_c0 rfl rfl hl.1 rfl (Nat.le_of_ble_eq_true rfl) dX12_say_215 ⟨Nat.zero_le _, Nat.zero_le _⟩ (fun H locs hw => ?_)
  have hw : Wo D ad (Aw ad 19 s.heap.size) (eR ad y m_thrown m_taped m_size m_to m_from m_kind m_number m_fault m_place m_name m_happenings m_newHappenings m_heard m_outs q62.1 a_tape a_happened a_many a_sort a_one a_other a_low a_high a_begins a_out q62.2.1 q62.2.2.1 q62.2.2.2 a_left a_far a_quarrel a_early a_earlyLast) s.heap H locs := hw
  refine lv_goto (tgt := 301) hx hb dX12_say_218 (by decide) ?_
  obtain rfl := so hf
  exact W.vret hx hb hr (fun t ht _ => g_endv hw t ht) hw.2.2.2.2 dX12_say_301
set_option maxHeartbeats 4000000 in
set_option maxRecDepth 100000 in
theorem kb_X12_say_b277 {p : Program} {l : Launch} {e : Env} {s : State} {m : MethodId} {args : Array Value} {below : List Frame} {meth : Method} {c : Code} {D : va_G} {ad : Nat → Nat} {y : Nat → ClassId} (C0 : CXT wsX12_say cX12_say RX12 5 none D (tyL y) (STR ad) p s m args meth c) {m_thrown : Int32} {m_taped : Int32} {m_size : Int32} {m_to : Int32} {m_from : Int32} {m_kind : Int32} {m_number : Int32} {m_fault : Int32} {m_place : Int32} {m_name : Int64} {m_happenings : Int32} {m_newHappenings : Int32} {m_heard : Int32} {m_outs : Int32} {m_bounds : Int32} {a_tape : Nat → Int32} {a_happened : Nat → Int64} {a_many : Nat → Int32} {a_sort : Nat → Int32} {a_one : Nat → Int32} {a_other : Nat → Int32} {a_low : Nat → Int32} {a_high : Nat → Int32} {a_begins : Nat → Int32} {a_out : Nat → Int32} {a_behind : Nat → Int32} {a_ahead : Nat → Int32} {a_most : Nat → Int32} {a_left : Nat → Int32} {a_far : Nat → Int32} {a_quarrel : Nat → Int32} {a_early : Nat → Int32} {a_earlyLast : Nat → Int32}  {w0 : Int32} {w1 : Int32} {w2 : Int32} {w3 : Int32}  {res : Int32 × (Nat → Int32) × (Nat → Int32) × (Nat → Int32)} (hf : f_X12_say_b277 m_bounds a_sort a_one a_other a_low a_high a_behind a_ahead a_most w0 w1 w2 w3 = some res) {H : Heap} {locs : List Loc} {ls : Array Slot} (hw : Wo D ad (Aw ad 19 s.heap.size) (eR ad y m_thrown m_taped m_size m_to m_from m_kind m_number m_fault m_place m_name m_happenings m_newHappenings m_heard m_outs m_bounds a_tape a_happened a_many a_sort a_one a_other a_low a_high a_begins a_out a_behind a_ahead a_most a_left a_far a_quarrel a_early a_earlyLast) s.heap H locs) (hl : lv_has ls 5 []) : W p l e rm_X12_say s m args below meth c H locs 0 0 (QM_X12_say below args s D ad y (m_thrown) (m_taped) (m_size) (m_to) (m_from) (m_kind) (m_number) (m_fault) (m_place) (m_name) (m_happenings) (m_newHappenings) (m_heard) (m_outs) (a_tape) (a_happened) (a_many) (a_sort) (a_one) (a_other) (a_low) (a_high) (a_begins) (a_out) (a_left) (a_far) (a_quarrel) (a_early) (a_earlyLast) res) (F0 m 277 ls [.int w0, .int w1, .int w2, .int w3, .ref (ad 0)]) := by
  obtain ⟨hx, hb, hr, hml, hown, hts, hlocks, hK, hst⟩ := id C0
  unfold f_X12_say_b277 at hf
  obtain ⟨q71, hq71, hf⟩ := bd hf
  refine g_Vv (As := [.int w3, .int w2, .int w1, .int w0]) (rest := []) ⟨hx, hb, hml, hown, hts⟩ (k_X12_span hq71) (cwV 4 hts gX12_say_X12_span rfl rfl rfl (by decide +kernel) ⟨Nat.le_of_ble_eq_true rfl, Nat.le_of_ble_eq_true rfl⟩) STR_ok hst hK hw rfl eR_c0 rfl rfl hl.1 rfl (Nat.le_of_ble_eq_true rfl) dX12_say_277 ⟨Nat.zero_le _, Nat.zero_le _⟩ (fun H locs hw => ?_)
  have hw : Wo D ad (Aw ad 19 s.heap.size) (eR ad y m_thrown m_taped m_size m_to m_from m_kind m_number m_fault m_place m_name m_happenings m_newHappenings m_heard m_outs q71.1 a_tape a_happened a_many a_sort a_one a_other a_low a_high a_begins a_out q71.2.1 q71.2.2.1 q71.2.2.2 a_left a_far a_quarrel a_early a_earlyLast) s.heap H locs := hw
  refine lv_goto (tgt := 301) hx hb dX12_say_280 (by decide) ?_
  obtain rfl := so hf
  exact W.vret hx hb hr (fun t ht _ => g_endv hw t ht) hw.2.2.2.2 dX12_say_301
set_option maxHeartbeats 4000000 in
set_option maxRecDepth 100000 in
theorem ke_X12_say {p : Program} {l : Launch} {e : Env} {s : State} {m : MethodId} {args : Array Value} {below : List Frame} {meth : Method} {c : Code} {D : va_G} {ad : Nat → Nat} {y : Nat → ClassId} (C0 : CXT wsX12_say cX12_say RX12 5 none D (tyL y) (STR ad) p s m args meth c) {m_thrown : Int32} {m_taped : Int32} {m_size : Int32} {m_to : Int32} {m_from : Int32} {m_kind : Int32} {m_number : Int32} {m_fault : Int32} {m_place : Int32} {m_name : Int64} {m_happenings : Int32} {m_newHappenings : Int32} {m_heard : Int32} {m_outs : Int32} {m_bounds : Int32} {a_tape : Nat → Int32} {a_happened : Nat → Int64} {a_many : Nat → Int32} {a_sort : Nat → Int32} {a_one : Nat → Int32} {a_other : Nat → Int32} {a_low : Nat → Int32} {a_high : Nat → Int32} {a_begins : Nat → Int32} {a_out : Nat → Int32} {a_behind : Nat → Int32} {a_ahead : Nat → Int32} {a_most : Nat → Int32} {a_left : Nat → Int32} {a_far : Nat → Int32} {a_quarrel : Nat → Int32} {a_early : Nat → Int32} {a_earlyLast : Nat → Int32} {p1 : Int32} {res : Int32 × (Nat → Int32) × (Nat → Int32) × (Nat → Int32)} (hf : f_X12_say m_bounds a_sort a_one a_other a_low a_high a_behind a_ahead a_most p1 = some res) {H : Heap} {locs : List Loc} {ls : Array Slot} (hw : Wo D ad (Aw ad 19 s.heap.size) (eR ad y m_thrown m_taped m_size m_to m_from m_kind m_number m_fault m_place m_name m_happenings m_newHappenings m_heard m_outs m_bounds a_tape a_happened a_many a_sort a_one a_other a_low a_high a_begins a_out a_behind a_ahead a_most a_left a_far a_quarrel a_early a_earlyLast) s.heap H locs) (hl : lv_has ls 5 [(0, .ref (ad 0)), (1, .int p1)]) : W p l e rm_X12_say s m args below meth c H locs 0 0 (QM_X12_say below args s D ad y (m_thrown) (m_taped) (m_size) (m_to) (m_from) (m_kind) (m_number) (m_fault) (m_place) (m_name) (m_happenings) (m_newHappenings) (m_heard) (m_outs) (a_tape) (a_happened) (a_many) (a_sort) (a_one) (a_other) (a_low) (a_high) (a_begins) (a_out) (a_left) (a_far) (a_quarrel) (a_early) (a_earlyLast) res) (F0 m 0 ls []) := by
  obtain ⟨hx, hb, hr, hml, hown, hts, hlocks, hK, hst⟩ := id C0
  have i_X12 : ∀ w ∈ u_ws RX12 TX12 33, w ∈ wsX12_say := by decide +kernel
  have L_23 := hts (.fieldLink RX12 23 "CaseOrderModel" "one" "[I") (by decide +kernel)
  have L_26 := hts (.fieldLink RX12 26 "CaseOrderModel" "other" "[I") (by decide +kernel)
  have L_20 := hts (.fieldLink RX12 20 "CaseOrderModel" "sort" "[I") (by decide +kernel)
  have L_29 := hts (.fieldLink RX12 29 "CaseOrderModel" "low" "[I") (by decide +kernel)
  have L_32 := hts (.fieldLink RX12 32 "CaseOrderModel" "high" "[I") (by decide +kernel)
  unfold f_X12_say at hf
  refine lv_iconst (v := 1) hx hb dX12_say_0 (by decide) ?_
  refine lv_iconst (v := 2) hx hb dX12_say_1 (by decide) ?_
  refine lv_aload_n hx hb dX12_say_2 rfl (lv_at hl 0 rfl) ?_
  refine g_get hx hb hts i_X12 hown hK hw 0 eR_c0 rfl 16 (by decide) L_23 (fun _ h => h) rfl dX12_say_3 ?_
  refine lv_iload_n hx hb dX12_say_6 rfl (lv_at hl 1 rfl) ?_
  obtain ⟨g34, hf⟩ := gIn_some hf
  refine g_iald hx hb hK hw 5 1 eR_c5 rfl g34 dX12_say_7 ?_
  refine lv_imul hx hb dX12_say_8 ?_
  refine lv_iadd hx hb dX12_say_9 ?_
  refine lv_istore_n (lv' := [(2, .int (1 + (2 * (a_one (Int32.toNatClampNeg p1))))), (0, .ref (ad 0)), (1, .int p1)]) hx hb dX12_say_10 rfl hl (by decide) rfl (fun ls hl => ?_)
  refine lv_iload_n hx hb dX12_say_11 rfl (lv_at hl 0 rfl) ?_
  refine lv_iconst (v := 1) hx hb dX12_say_12 (by decide) ?_
  refine lv_iadd hx hb dX12_say_13 ?_
  refine lv_istore_n (lv' := [(3, .int ((1 + (2 * (a_one (Int32.toNatClampNeg p1)))) + 1)), (2, .int (1 + (2 * (a_one (Int32.toNatClampNeg p1))))), (0, .ref (ad 0)), (1, .int p1)]) hx hb dX12_say_14 rfl hl (by decide) rfl (fun ls hl => ?_)
  refine lv_iconst (v := 1) hx hb dX12_say_15 (by decide) ?_
  refine lv_iconst (v := 2) hx hb dX12_say_16 (by decide) ?_
  refine lv_aload_n hx hb dX12_say_17 rfl (lv_at hl 2 rfl) ?_
  refine g_get hx hb hts i_X12 hown hK hw 0 eR_c0 rfl 17 (by decide) L_26 (fun _ h => h) rfl dX12_say_18 ?_
  refine lv_iload_n hx hb dX12_say_21 rfl (lv_at hl 3 rfl) ?_
  obtain ⟨g35, hf⟩ := gIn_some hf
  refine g_iald hx hb hK hw 6 1 eR_c6 rfl g35 dX12_say_22 ?_
  refine lv_imul hx hb dX12_say_23 ?_
  refine lv_iadd hx hb dX12_say_24 ?_
  refine lv_istore (lv' := [(4, .int (1 + (2 * (a_other (Int32.toNatClampNeg p1))))), (3, .int ((1 + (2 * (a_one (Int32.toNatClampNeg p1)))) + 1)), (2, .int (1 + (2 * (a_one (Int32.toNatClampNeg p1))))), (0, .ref (ad 0)), (1, .int p1)]) hx hb dX12_say_25 hl (by decide) rfl (fun ls hl => ?_)
  refine lv_aload_n hx hb dX12_say_27 rfl (lv_at hl 3 rfl) ?_
  refine g_get hx hb hts i_X12 hown hK hw 0 eR_c0 rfl 15 (by decide) L_20 (fun _ h => h) rfl dX12_say_28 ?_
  refine lv_iload_n hx hb dX12_say_31 rfl (lv_at hl 4 rfl) ?_
  obtain ⟨g36, hf⟩ := gIn_some hf
  refine g_iald hx hb hK hw 4 1 eR_c4 rfl g36 dX12_say_32 ?_
  by_cases c37 : (a_sort (Int32.toNatClampNeg p1)) = 0
  · have hf := it_p c37 hf
    refine lv_tableIn (tgt := 72) hx hb dX12_say_33 (by rw [c37]; decide) (by rw [c37]; decide) (by rw [c37]; rfl) (by decide) ?_
    refine lv_aload_n hx hb dX12_say_72 rfl (lv_at hl 3 rfl) ?_
    refine lv_iconst (v := 0) hx hb dX12_say_73 (by decide) ?_
    refine lv_iload_n hx hb dX12_say_74 rfl (lv_at hl 2 rfl) ?_
    refine lv_aload_n hx hb dX12_say_75 rfl (lv_at hl 3 rfl) ?_
    refine g_get hx hb hts i_X12 hown hK hw 0 eR_c0 rfl 18 (by decide) L_29 (fun _ h => h) rfl dX12_say_76 ?_
    refine lv_iload_n hx hb dX12_say_79 rfl (lv_at hl 4 rfl) ?_
    obtain ⟨g38, hf⟩ := gIn_some hf
    refine g_iald hx hb hK hw 7 1 eR_c7 rfl g38 dX12_say_80 ?_
    refine lv_aload_n hx hb dX12_say_81 rfl (lv_at hl 3 rfl) ?_
    refine g_get hx hb hts i_X12 hown hK hw 0 eR_c0 rfl 18 (by decide) L_29 (fun _ h => h) rfl dX12_say_82 ?_
    refine lv_iload_n hx hb dX12_say_85 rfl (lv_at hl 4 rfl) ?_
    obtain ⟨g39, hf⟩ := gIn_some hf
    refine g_iald hx hb hK hw 7 1 eR_c7 rfl g39 dX12_say_86 ?_
    obtain ⟨q40, hq40, hf⟩ := bd hf
    refine g_Vv (As := [.int 0, .int (1 + (2 * (a_one (Int32.toNatClampNeg p1)))), .int (a_low (Int32.toNatClampNeg p1)), .int (a_low (Int32.toNatClampNeg p1))]) (rest := []) ⟨hx, hb, hml, hown, hts⟩ (k_X12_span hq40) (cwV 4 hts gX12_say_X12_span rfl rfl rfl (by decide +kernel) ⟨Nat.le_of_ble_eq_true rfl, Nat.le_of_ble_eq_true rfl⟩) STR_ok hst hK hw rfl eR_c0 rfl rfl hl.1 rfl (Nat.le_of_ble_eq_true rfl) dX12_say_87 ⟨Nat.zero_le _, Nat.zero_le _⟩ (fun H locs hw => ?_)
    have hw : Wo D ad (Aw ad 19 s.heap.size) (eR ad y m_thrown m_taped m_size m_to m_from m_kind m_number m_fault m_place m_name m_happenings m_newHappenings m_heard m_outs q40.1 a_tape a_happened a_many a_sort a_one a_other a_low a_high a_begins a_out q40.2.1 q40.2.2.1 q40.2.2.2 a_left a_far a_quarrel a_early a_earlyLast) s.heap H locs := hw
    refine lv_aload_n hx hb dX12_say_90 rfl (lv_at hl 3 rfl) ?_
    refine lv_iconst (v := 0) hx hb dX12_say_91 (by decide) ?_
    refine lv_iload_n hx hb dX12_say_92 rfl (lv_at hl 1 rfl) ?_
    refine lv_aload_n hx hb dX12_say_93 rfl (lv_at hl 3 rfl) ?_
    refine g_get hx hb hts i_X12 hown hK hw 0 eR_c0 rfl 18 (by decide) L_29 (fun _ h => h) rfl dX12_say_94 ?_
    refine lv_iload_n hx hb dX12_say_97 rfl (lv_at hl 4 rfl) ?_
    obtain ⟨g41, hf⟩ := gIn_some hf
    refine g_iald hx hb hK hw 7 1 eR_c7 rfl g41 dX12_say_98 ?_
    refine lv_aload_n hx hb dX12_say_99 rfl (lv_at hl 3 rfl) ?_
    refine g_get hx hb hts i_X12 hown hK hw 0 eR_c0 rfl 18 (by decide) L_29 (fun _ h => h) rfl dX12_say_100 ?_
    refine lv_iload_n hx hb dX12_say_103 rfl (lv_at hl 4 rfl) ?_
    obtain ⟨g42, hf⟩ := gIn_some hf
    refine g_iald hx hb hK hw 7 1 eR_c7 rfl g42 dX12_say_104 ?_
    obtain ⟨q43, hq43, hf⟩ := bd hf
    refine g_Vv (As := [.int 0, .int ((1 + (2 * (a_one (Int32.toNatClampNeg p1)))) + 1), .int (a_low (Int32.toNatClampNeg p1)), .int (a_low (Int32.toNatClampNeg p1))]) (rest := []) ⟨hx, hb, hml, hown, hts⟩ (k_X12_span hq43) (cwV 4 hts gX12_say_X12_span rfl rfl rfl (by decide +kernel) ⟨Nat.le_of_ble_eq_true rfl, Nat.le_of_ble_eq_true rfl⟩) STR_ok hst hK hw rfl eR_c0 rfl rfl hl.1 rfl (Nat.le_of_ble_eq_true rfl) dX12_say_105 ⟨Nat.zero_le _, Nat.zero_le _⟩ (fun H locs hw => ?_)
    have hw : Wo D ad (Aw ad 19 s.heap.size) (eR ad y m_thrown m_taped m_size m_to m_from m_kind m_number m_fault m_place m_name m_happenings m_newHappenings m_heard m_outs q43.1 a_tape a_happened a_many a_sort a_one a_other a_low a_high a_begins a_out q43.2.1 q43.2.2.1 q43.2.2.2 a_left a_far a_quarrel a_early a_earlyLast) s.heap H locs := hw
    refine lv_goto (tgt := 301) hx hb dX12_say_108 (by decide) ?_
    obtain rfl := so hf
    exact W.vret hx hb hr (fun t ht _ => g_endv hw t ht) hw.2.2.2.2 dX12_say_301
  have hf := it_n c37 hf
  by_cases c44 : (a_sort (Int32.toNatClampNeg p1)) = 1
  · have hf := it_p c44 hf
    refine lv_tableIn (tgt := 111) hx hb dX12_say_33 (by rw [c44]; decide) (by rw [c44]; decide) (by rw [c44]; rfl) (by decide) ?_
    refine lv_aload_n hx hb dX12_say_111 rfl (lv_at hl 3 rfl) ?_
    refine lv_iconst (v := 0) hx hb dX12_say_112 (by decide) ?_
    refine lv_iload_n hx hb dX12_say_113 rfl (lv_at hl 2 rfl) ?_
    refine lv_aload_n hx hb dX12_say_114 rfl (lv_at hl 3 rfl) ?_
    refine g_get hx hb hts i_X12 hown hK hw 0 eR_c0 rfl 18 (by decide) L_29 (fun _ h => h) rfl dX12_say_115 ?_
    refine lv_iload_n hx hb dX12_say_118 rfl (lv_at hl 4 rfl) ?_
    obtain ⟨g45, hf⟩ := gIn_some hf
    refine g_iald hx hb hK hw 7 1 eR_c7 rfl g45 dX12_say_119 ?_
    refine lv_aload_n hx hb dX12_say_120 rfl (lv_at hl 3 rfl) ?_
    refine g_get hx hb hts i_X12 hown hK hw 0 eR_c0 rfl 18 (by decide) L_29 (fun _ h => h) rfl dX12_say_121 ?_
    refine lv_iload_n hx hb dX12_say_124 rfl (lv_at hl 4 rfl) ?_
    obtain ⟨g46, hf⟩ := gIn_some hf
    refine g_iald hx hb hK hw 7 1 eR_c7 rfl g46 dX12_say_125 ?_
    obtain ⟨q47, hq47, hf⟩ := bd hf
    refine g_Vv (As := [.int 0, .int (1 + (2 * (a_one (Int32.toNatClampNeg p1)))), .int (a_low (Int32.toNatClampNeg p1)), .int (a_low (Int32.toNatClampNeg p1))]) (rest := []) ⟨hx, hb, hml, hown, hts⟩ (k_X12_span hq47) (cwV 4 hts gX12_say_X12_span rfl rfl rfl (by decide +kernel) ⟨Nat.le_of_ble_eq_true rfl, Nat.le_of_ble_eq_true rfl⟩) STR_ok hst hK hw rfl eR_c0 rfl rfl hl.1 rfl (Nat.le_of_ble_eq_true rfl) dX12_say_126 ⟨Nat.zero_le _, Nat.zero_le _⟩ (fun H locs hw => ?_)
    have hw : Wo D ad (Aw ad 19 s.heap.size) (eR ad y m_thrown m_taped m_size m_to m_from m_kind m_number m_fault m_place m_name m_happenings m_newHappenings m_heard m_outs q47.1 a_tape a_happened a_many a_sort a_one a_other a_low a_high a_begins a_out q47.2.1 q47.2.2.1 q47.2.2.2 a_left a_far a_quarrel a_early a_earlyLast) s.heap H locs := hw
    refine lv_aload_n hx hb dX12_say_129 rfl (lv_at hl 3 rfl) ?_
    refine lv_iconst (v := 0) hx hb dX12_say_130 (by decide) ?_
    refine lv_iload_n hx hb dX12_say_131 rfl (lv_at hl 1 rfl) ?_
    refine lv_aload_n hx hb dX12_say_132 rfl (lv_at hl 3 rfl) ?_
    refine g_get hx hb hts i_X12 hown hK hw 0 eR_c0 rfl 19 (by decide) L_32 (fun _ h => h) rfl dX12_say_133 ?_
    refine lv_iload_n hx hb dX12_say_136 rfl (lv_at hl 4 rfl) ?_
    obtain ⟨g48, hf⟩ := gIn_some hf
    refine g_iald hx hb hK hw 8 1 eR_c8 rfl g48 dX12_say_137 ?_
    refine lv_aload_n hx hb dX12_say_138 rfl (lv_at hl 3 rfl) ?_
    refine g_get hx hb hts i_X12 hown hK hw 0 eR_c0 rfl 19 (by decide) L_32 (fun _ h => h) rfl dX12_say_139 ?_
    refine lv_iload_n hx hb dX12_say_142 rfl (lv_at hl 4 rfl) ?_
    obtain ⟨g49, hf⟩ := gIn_some hf
    refine g_iald hx hb hK hw 8 1 eR_c8 rfl g49 dX12_say_143 ?_
    obtain ⟨q50, hq50, hf⟩ := bd hf
    refine g_Vv (As := [.int 0, .int ((1 + (2 * (a_one (Int32.toNatClampNeg p1)))) + 1), .int (a_high (Int32.toNatClampNeg p1)), .int (a_high (Int32.toNatClampNeg p1))]) (rest := []) ⟨hx, hb, hml, hown, hts⟩ (k_X12_span hq50) (cwV 4 hts gX12_say_X12_span rfl rfl rfl (by decide +kernel) ⟨Nat.le_of_ble_eq_true rfl, Nat.le_of_ble_eq_true rfl⟩) STR_ok hst hK hw rfl eR_c0 rfl rfl hl.1 rfl (Nat.le_of_ble_eq_true rfl) dX12_say_144 ⟨Nat.zero_le _, Nat.zero_le _⟩ (fun H locs hw => ?_)
    have hw : Wo D ad (Aw ad 19 s.heap.size) (eR ad y m_thrown m_taped m_size m_to m_from m_kind m_number m_fault m_place m_name m_happenings m_newHappenings m_heard m_outs q50.1 a_tape a_happened a_many a_sort a_one a_other a_low a_high a_begins a_out q50.2.1 q50.2.2.1 q50.2.2.2 a_left a_far a_quarrel a_early a_earlyLast) s.heap H locs := hw
    refine lv_goto (tgt := 301) hx hb dX12_say_147 (by decide) ?_
    obtain rfl := so hf
    exact W.vret hx hb hr (fun t ht _ => g_endv hw t ht) hw.2.2.2.2 dX12_say_301
  have hf := it_n c44 hf
  by_cases c51 : (a_sort (Int32.toNatClampNeg p1)) = 2
  · have hf := it_p c51 hf
    refine lv_tableIn (tgt := 150) hx hb dX12_say_33 (by rw [c51]; decide) (by rw [c51]; decide) (by rw [c51]; rfl) (by decide) ?_
    refine lv_aload_n hx hb dX12_say_150 rfl (lv_at hl 3 rfl) ?_
    refine lv_iconst (v := 0) hx hb dX12_say_151 (by decide) ?_
    refine lv_iload_n hx hb dX12_say_152 rfl (lv_at hl 1 rfl) ?_
    refine lv_aload_n hx hb dX12_say_153 rfl (lv_at hl 3 rfl) ?_
    refine g_get hx hb hts i_X12 hown hK hw 0 eR_c0 rfl 18 (by decide) L_29 (fun _ h => h) rfl dX12_say_154 ?_
    refine lv_iload_n hx hb dX12_say_157 rfl (lv_at hl 4 rfl) ?_
    obtain ⟨g52, hf⟩ := gIn_some hf
    refine g_iald hx hb hK hw 7 1 eR_c7 rfl g52 dX12_say_158 ?_
    obtain ⟨q53, hq53, hf⟩ := bd hf
    refine g_Vv (As := [.int 0, .int ((1 + (2 * (a_one (Int32.toNatClampNeg p1)))) + 1), .int (a_low (Int32.toNatClampNeg p1))]) (rest := []) ⟨hx, hb, hml, hown, hts⟩ (k_X12_atMost hq53) (cwV 3 hts gX12_say_X12_atMost rfl rfl rfl (by decide +kernel) ⟨Nat.le_of_ble_eq_true rfl, Nat.le_of_ble_eq_true rfl⟩) STR_ok hst hK hw rfl eR_c0 rfl rfl hl.1 rfl (Nat.le_of_ble_eq_true rfl) dX12_say_159 ⟨Nat.zero_le _, Nat.zero_le _⟩ (fun H locs hw => ?_)
    have hw : Wo D ad (Aw ad 19 s.heap.size) (eR ad y m_thrown m_taped m_size m_to m_from m_kind m_number m_fault m_place m_name m_happenings m_newHappenings m_heard m_outs q53.1 a_tape a_happened a_many a_sort a_one a_other a_low a_high a_begins a_out q53.2.1 q53.2.2.1 q53.2.2.2 a_left a_far a_quarrel a_early a_earlyLast) s.heap H locs := hw
    refine lv_goto (tgt := 301) hx hb dX12_say_162 (by decide) ?_
    obtain rfl := so hf
    exact W.vret hx hb hr (fun t ht _ => g_endv hw t ht) hw.2.2.2.2 dX12_say_301
  have hf := it_n c51 hf
  by_cases c54 : (a_sort (Int32.toNatClampNeg p1)) = 3
  · have hf := it_p c54 hf
    refine lv_tableIn (tgt := 165) hx hb dX12_say_33 (by rw [c54]; decide) (by rw [c54]; decide) (by rw [c54]; rfl) (by decide) ?_
    refine lv_aload_n hx hb dX12_say_165 rfl (lv_at hl 3 rfl) ?_
    refine lv_iload_n hx hb dX12_say_166 rfl (lv_at hl 2 rfl) ?_
    refine lv_iconst (v := 0) hx hb dX12_say_167 (by decide) ?_
    refine lv_aload_n hx hb dX12_say_168 rfl (lv_at hl 3 rfl) ?_
    refine g_get hx hb hts i_X12 hown hK hw 0 eR_c0 rfl 18 (by decide) L_29 (fun _ h => h) rfl dX12_say_169 ?_
    refine lv_iload_n hx hb dX12_say_172 rfl (lv_at hl 4 rfl) ?_
    obtain ⟨g55, hf⟩ := gIn_some hf
    refine g_iald hx hb hK hw 7 1 eR_c7 rfl g55 dX12_say_173 ?_
    refine lv_ineg hx hb dX12_say_174 ?_
    obtain ⟨q56, hq56, hf⟩ := bd hf
    refine g_Vv (As := [.int (1 + (2 * (a_one (Int32.toNatClampNeg p1)))), .int 0, .int (-(a_low (Int32.toNatClampNeg p1)))]) (rest := []) ⟨hx, hb, hml, hown, hts⟩ (k_X12_atMost hq56) (cwV 3 hts gX12_say_X12_atMost rfl rfl rfl (by decide +kernel) ⟨Nat.le_of_ble_eq_true rfl, Nat.le_of_ble_eq_true rfl⟩) STR_ok hst hK hw rfl eR_c0 rfl rfl hl.1 rfl (Nat.le_of_ble_eq_true rfl) dX12_say_175 ⟨Nat.zero_le _, Nat.zero_le _⟩ (fun H locs hw => ?_)
    have hw : Wo D ad (Aw ad 19 s.heap.size) (eR ad y m_thrown m_taped m_size m_to m_from m_kind m_number m_fault m_place m_name m_happenings m_newHappenings m_heard m_outs q56.1 a_tape a_happened a_many a_sort a_one a_other a_low a_high a_begins a_out q56.2.1 q56.2.2.1 q56.2.2.2 a_left a_far a_quarrel a_early a_earlyLast) s.heap H locs := hw
    refine lv_goto (tgt := 301) hx hb dX12_say_178 (by decide) ?_
    obtain rfl := so hf
    exact W.vret hx hb hr (fun t ht _ => g_endv hw t ht) hw.2.2.2.2 dX12_say_301
  have hf := it_n c54 hf
  by_cases c57 : (a_sort (Int32.toNatClampNeg p1)) = 4
  · have hf := it_p c57 hf
    refine lv_tableIn (tgt := 181) hx hb dX12_say_33 (by rw [c57]; decide) (by rw [c57]; decide) (by rw [c57]; rfl) (by decide) ?_
    refine lv_aload_n hx hb dX12_say_181 rfl (lv_at hl 3 rfl) ?_
    refine lv_iload_n hx hb dX12_say_182 rfl (lv_at hl 2 rfl) ?_
    refine lv_iload_n hx hb dX12_say_183 rfl (lv_at hl 1 rfl) ?_
    refine lv_aload_n hx hb dX12_say_184 rfl (lv_at hl 3 rfl) ?_
    refine g_get hx hb hts i_X12 hown hK hw 0 eR_c0 rfl 18 (by decide) L_29 (fun _ h => h) rfl dX12_say_185 ?_
    refine lv_iload_n hx hb dX12_say_188 rfl (lv_at hl 4 rfl) ?_
    obtain ⟨g58, hf⟩ := gIn_some hf
    refine g_iald hx hb hK hw 7 1 eR_c7 rfl g58 dX12_say_189 ?_
    refine lv_aload_n hx hb dX12_say_190 rfl (lv_at hl 3 rfl) ?_
    refine g_get hx hb hts i_X12 hown hK hw 0 eR_c0 rfl 19 (by decide) L_32 (fun _ h => h) rfl dX12_say_191 ?_
    refine lv_iload_n hx hb dX12_say_194 rfl (lv_at hl 4 rfl) ?_
    obtain ⟨g59, hf⟩ := gIn_some hf
    refine g_iald hx hb hK hw 8 1 eR_c8 rfl g59 dX12_say_195 ?_
    refine lv_iconst (v := (-1)) hx hb dX12_say_196 (by decide) ?_
    refine lv_icmp_ne (tgt := 209) hx hb dX12_say_197 (by decide) (fun c60 => ?_) (fun c60 => ?_)
    · have hf := it_n c60 hf
      refine lv_aload_n hx hb dX12_say_209 rfl (lv_at hl 3 rfl) ?_
      refine g_get hx hb hts i_X12 hown hK hw 0 eR_c0 rfl 19 (by decide) L_32 (fun _ h => h) rfl dX12_say_210 ?_
      refine lv_iload_n hx hb dX12_say_213 rfl (lv_at hl 4 rfl) ?_
      obtain ⟨g61, hf⟩ := gIn_some hf
      refine g_iald hx hb hK hw 8 1 eR_c8 rfl g61 dX12_say_214 ?_
      exact kb_X12_say_b215 C0 hf hw (lv_sub hl [] rfl)
    · have hf := it_p c60 hf
      refine lv_aload_n hx hb dX12_say_200 rfl (lv_at hl 3 rfl) ?_
      refine g_get hx hb hts i_X12 hown hK hw 0 eR_c0 rfl 18 (by decide) L_29 (fun _ h => h) rfl dX12_say_201 ?_
      refine lv_iload_n hx hb dX12_say_204 rfl (lv_at hl 4 rfl) ?_
      obtain ⟨g63, hf⟩ := gIn_some hf
      refine g_iald hx hb hK hw 7 1 eR_c7 rfl g63 dX12_say_205 ?_
      refine lv_goto (tgt := 215) hx hb dX12_say_206 (by decide) ?_
      exact kb_X12_say_b215 C0 hf hw (lv_sub hl [] rfl)
  have hf := it_n c57 hf
  by_cases c64 : (a_sort (Int32.toNatClampNeg p1)) = 5
  · have hf := it_p c64 hf
    refine lv_tableIn (tgt := 221) hx hb dX12_say_33 (by rw [c64]; decide) (by rw [c64]; decide) (by rw [c64]; rfl) (by decide) ?_
    refine lv_aload_n hx hb dX12_say_221 rfl (lv_at hl 3 rfl) ?_
    refine g_get hx hb hts i_X12 hown hK hw 0 eR_c0 rfl 18 (by decide) L_29 (fun _ h => h) rfl dX12_say_222 ?_
    refine lv_iload_n hx hb dX12_say_225 rfl (lv_at hl 4 rfl) ?_
    obtain ⟨g65, hf⟩ := gIn_some hf
    refine g_iald hx hb hK hw 7 1 eR_c7 rfl g65 dX12_say_226 ?_
    refine lv_iconst (v := (-1)) hx hb dX12_say_227 (by decide) ?_
    refine lv_icmp_ne (tgt := 242) hx hb dX12_say_228 (by decide) (fun c66 => ?_) (fun c66 => ?_)
    · have hf := it_n c66 hf
      refine lv_aload_n hx hb dX12_say_242 rfl (lv_at hl 3 rfl) ?_
      refine lv_iload_n hx hb dX12_say_243 rfl (lv_at hl 1 rfl) ?_
      refine lv_iload hx hb dX12_say_244 (lv_at hl 0 rfl) ?_
      refine lv_aload_n hx hb dX12_say_246 rfl (lv_at hl 3 rfl) ?_
      refine g_get hx hb hts i_X12 hown hK hw 0 eR_c0 rfl 18 (by decide) L_29 (fun _ h => h) rfl dX12_say_247 ?_
      refine lv_iload_n hx hb dX12_say_250 rfl (lv_at hl 4 rfl) ?_
      obtain ⟨g67, hf⟩ := gIn_some hf
      refine g_iald hx hb hK hw 7 1 eR_c7 rfl g67 dX12_say_251 ?_
      refine lv_aload_n hx hb dX12_say_252 rfl (lv_at hl 3 rfl) ?_
      refine g_get hx hb hts i_X12 hown hK hw 0 eR_c0 rfl 19 (by decide) L_32 (fun _ h => h) rfl dX12_say_253 ?_
      refine lv_iload_n hx hb dX12_say_256 rfl (lv_at hl 4 rfl) ?_
      obtain ⟨g68, hf⟩ := gIn_some hf
      refine g_iald hx hb hK hw 8 1 eR_c8 rfl g68 dX12_say_257 ?_
      refine lv_iconst (v := (-1)) hx hb dX12_say_258 (by decide) ?_
      refine lv_icmp_ne (tgt := 271) hx hb dX12_say_259 (by decide) (fun c69 => ?_) (fun c69 => ?_)
      · have hf := it_n c69 hf
        refine lv_aload_n hx hb dX12_say_271 rfl (lv_at hl 3 rfl) ?_
        refine g_get hx hb hts i_X12 hown hK hw 0 eR_c0 rfl 19 (by decide) L_32 (fun _ h => h) rfl dX12_say_272 ?_
        refine lv_iload_n hx hb dX12_say_275 rfl (lv_at hl 4 rfl) ?_
        obtain ⟨g70, hf⟩ := gIn_some hf
        refine g_iald hx hb hK hw 8 1 eR_c8 rfl g70 dX12_say_276 ?_
        exact kb_X12_say_b277 C0 hf hw (lv_sub hl [] rfl)
      · have hf := it_p c69 hf
        refine lv_aload_n hx hb dX12_say_262 rfl (lv_at hl 3 rfl) ?_
        refine g_get hx hb hts i_X12 hown hK hw 0 eR_c0 rfl 18 (by decide) L_29 (fun _ h => h) rfl dX12_say_263 ?_
        refine lv_iload_n hx hb dX12_say_266 rfl (lv_at hl 4 rfl) ?_
        obtain ⟨g72, hf⟩ := gIn_some hf
        refine g_iald hx hb hK hw 7 1 eR_c7 rfl g72 dX12_say_267 ?_
        refine lv_goto (tgt := 277) hx hb dX12_say_268 (by decide) ?_
        exact kb_X12_say_b277 C0 hf hw (lv_sub hl [] rfl)
    · have hf := it_p c66 hf
      refine lv_aload_n hx hb dX12_say_231 rfl (lv_at hl 3 rfl) ?_
      refine lv_iload hx hb dX12_say_232 (lv_at hl 0 rfl) ?_
      refine lv_iload_n hx hb dX12_say_234 rfl (lv_at hl 1 rfl) ?_
      refine lv_iconst (v := (-1)) hx hb dX12_say_235 (by decide) ?_
      obtain ⟨q73, hq73, hf⟩ := bd hf
      refine g_Vv (As := [.int (1 + (2 * (a_other (Int32.toNatClampNeg p1)))), .int ((1 + (2 * (a_one (Int32.toNatClampNeg p1)))) + 1), .int (-1)]) (rest := []) ⟨hx, hb, hml, hown, hts⟩ (k_X12_atMost hq73) (cwV 3 hts gX12_say_X12_atMost rfl rfl rfl (by decide +kernel) ⟨Nat.le_of_ble_eq_true rfl, Nat.le_of_ble_eq_true rfl⟩) STR_ok hst hK hw rfl eR_c0 rfl rfl hl.1 rfl (Nat.le_of_ble_eq_true rfl) dX12_say_236 ⟨Nat.zero_le _, Nat.zero_le _⟩ (fun H locs hw => ?_)
      have hw : Wo D ad (Aw ad 19 s.heap.size) (eR ad y m_thrown m_taped m_size m_to m_from m_kind m_number m_fault m_place m_name m_happenings m_newHappenings m_heard m_outs q73.1 a_tape a_happened a_many a_sort a_one a_other a_low a_high a_begins a_out q73.2.1 q73.2.2.1 q73.2.2.2 a_left a_far a_quarrel a_early a_earlyLast) s.heap H locs := hw
      refine lv_goto (tgt := 301) hx hb dX12_say_239 (by decide) ?_
      obtain rfl := so hf
      exact W.vret hx hb hr (fun t ht _ => g_endv hw t ht) hw.2.2.2.2 dX12_say_301
  have hf := it_n c64 hf
  refine lv_tableOut (tgt := 283) hx hb dX12_say_33 (by have nc37 := sw_ne c37 (0 : Int) (by decide); have nc44 := sw_ne c44 (1 : Int) (by decide); have nc51 := sw_ne c51 (2 : Int) (by decide); have nc54 := sw_ne c54 (3 : Int) (by decide); have nc57 := sw_ne c57 (4 : Int) (by decide); have nc64 := sw_ne c64 (5 : Int) (by decide); omega) (by decide) ?_
  refine lv_aload_n hx hb dX12_say_283 rfl (lv_at hl 3 rfl) ?_
  refine lv_iload_n hx hb dX12_say_284 rfl (lv_at hl 2 rfl) ?_
  refine lv_iload hx hb dX12_say_285 (lv_at hl 0 rfl) ?_
  refine lv_iconst (v := 0) hx hb dX12_say_287 (by decide) ?_
  obtain ⟨q74, hq74, hf⟩ := bd hf
  refine g_Vv (As := [.int (1 + (2 * (a_one (Int32.toNatClampNeg p1)))), .int (1 + (2 * (a_other (Int32.toNatClampNeg p1)))), .int 0]) (rest := []) ⟨hx, hb, hml, hown, hts⟩ (k_X12_atMost hq74) (cwV 3 hts gX12_say_X12_atMost rfl rfl rfl (by decide +kernel) ⟨Nat.le_of_ble_eq_true rfl, Nat.le_of_ble_eq_true rfl⟩) STR_ok hst hK hw rfl eR_c0 rfl rfl hl.1 rfl (Nat.le_of_ble_eq_true rfl) dX12_say_288 ⟨Nat.zero_le _, Nat.zero_le _⟩ (fun H locs hw => ?_)
  have hw : Wo D ad (Aw ad 19 s.heap.size) (eR ad y m_thrown m_taped m_size m_to m_from m_kind m_number m_fault m_place m_name m_happenings m_newHappenings m_heard m_outs q74.1 a_tape a_happened a_many a_sort a_one a_other a_low a_high a_begins a_out q74.2.1 q74.2.2.1 q74.2.2.2 a_left a_far a_quarrel a_early a_earlyLast) s.heap H locs := hw
  refine lv_aload_n hx hb dX12_say_291 rfl (lv_at hl 3 rfl) ?_
  refine lv_iload hx hb dX12_say_292 (lv_at hl 0 rfl) ?_
  refine lv_iconst (v := 1) hx hb dX12_say_294 (by decide) ?_
  refine lv_iadd hx hb dX12_say_295 ?_
  refine lv_iload_n hx hb dX12_say_296 rfl (lv_at hl 1 rfl) ?_
  refine lv_iconst (v := 0) hx hb dX12_say_297 (by decide) ?_
  obtain ⟨q75, hq75, hf⟩ := bd hf
  refine g_Vv (As := [.int ((1 + (2 * (a_other (Int32.toNatClampNeg p1)))) + 1), .int ((1 + (2 * (a_one (Int32.toNatClampNeg p1)))) + 1), .int 0]) (rest := []) ⟨hx, hb, hml, hown, hts⟩ (k_X12_atMost hq75) (cwV 3 hts gX12_say_X12_atMost rfl rfl rfl (by decide +kernel) ⟨Nat.le_of_ble_eq_true rfl, Nat.le_of_ble_eq_true rfl⟩) STR_ok hst hK hw rfl eR_c0 rfl rfl hl.1 rfl (Nat.le_of_ble_eq_true rfl) dX12_say_298 ⟨Nat.zero_le _, Nat.zero_le _⟩ (fun H locs hw => ?_)
  have hw : Wo D ad (Aw ad 19 s.heap.size) (eR ad y m_thrown m_taped m_size m_to m_from m_kind m_number m_fault m_place m_name m_happenings m_newHappenings m_heard m_outs q75.1 a_tape a_happened a_many a_sort a_one a_other a_low a_high a_begins a_out q75.2.1 q75.2.2.1 q75.2.2.2 a_left a_far a_quarrel a_early a_earlyLast) s.heap H locs := hw
  obtain rfl := so hf
  exact W.vret hx hb hr (fun t ht _ => g_endv hw t ht) hw.2.2.2.2 dX12_say_301
set_option maxHeartbeats 4000000 in
theorem k_X12_say {l : Launch} {D : va_G} {ad : Nat → Nat} {y : Nat → ClassId} {m_thrown : Int32} {m_taped : Int32} {m_size : Int32} {m_to : Int32} {m_from : Int32} {m_kind : Int32} {m_number : Int32} {m_fault : Int32} {m_place : Int32} {m_name : Int64} {m_happenings : Int32} {m_newHappenings : Int32} {m_heard : Int32} {m_outs : Int32} {m_bounds : Int32} {a_tape : Nat → Int32} {a_happened : Nat → Int64} {a_many : Nat → Int32} {a_sort : Nat → Int32} {a_one : Nat → Int32} {a_other : Nat → Int32} {a_low : Nat → Int32} {a_high : Nat → Int32} {a_begins : Nat → Int32} {a_out : Nat → Int32} {a_behind : Nat → Int32} {a_ahead : Nat → Int32} {a_most : Nat → Int32} {a_left : Nat → Int32} {a_far : Nat → Int32} {a_quarrel : Nat → Int32} {a_early : Nat → Int32} {a_earlyLast : Nat → Int32} {p1 : Int32} {res : Int32 × (Nat → Int32) × (Nat → Int32) × (Nat → Int32)} (hf : f_X12_say m_bounds a_sort a_one a_other a_low a_high a_behind a_ahead a_most p1 = some res) : CTv l yX12_say wsX12_say rm_X12_say D ad 19 (tyL y) (STR ad) (eR ad y m_thrown m_taped m_size m_to m_from m_kind m_number m_fault m_place m_name m_happenings m_newHappenings m_heard m_outs m_bounds a_tape a_happened a_many a_sort a_one a_other a_low a_high a_begins a_out a_behind a_ahead a_most a_left a_far a_quarrel a_early a_earlyLast) (eR ad y m_thrown m_taped m_size m_to m_from m_kind m_number m_fault m_place m_name m_happenings m_newHappenings m_heard m_outs res.1 a_tape a_happened a_many a_sort a_one a_other a_low a_high a_begins a_out res.2.1 res.2.2.1 res.2.2.2 a_left a_far a_quarrel a_early a_earlyLast) [.ref (ad 0), .int p1] := by
  intro sz
  refine Met.ofW (cc := cX12_say) (maxL := 5) (ret := none) (by decide) rfl ?_
  intro p e s m args below meth c s₁ B hml hv
  obtain ⟨rfl, hsz, hP, hK, hD0, hst⟩ := hv
  subst hsz
  have C0 : CXT wsX12_say cX12_say RX12 5 none D (tyL y) (STR ad) p s m ([.ref (ad 0), .int p1] : List Value).toArray meth c := ⟨B.exec, B.bytes, B.returns, hml, findClass_of_methodNamed B.named, atoms_spec (ws := wsX12_say) B.pre, B.notSynchronized, hK, hst⟩
  have hw := g_start (n := 19) rfl hP hD0
  have hl := lv_entry ([.ref (ad 0), .int p1]) (n := 5) (Nat.le_of_ble_eq_true rfl)
  rw [lg_entry_eq]
  generalize (lg_sl ([.ref (ad 0), .int p1]) ++ List.replicate (5 - (lg_sl ([.ref (ad 0), .int p1])).length) Slot.unset).toArray = ls at hl ⊢
  have hl : lv_has ls 5 [(0, .ref (ad 0)), (1, .int p1)] := hl
  exact ke_X12_say C0 hf hw hl
abbrev rm_X12_gather : Room := { frames := 3, cells := 0, slots := 0, locals := 71 }
abbrev QM_X12_gather (below : List Frame) (args : Array Value) (s : State) (D : va_G) (ad : Nat → Nat) (y : Nat → ClassId) (m_thrown : Int32) (m_taped : Int32) (m_size : Int32) (m_to : Int32) (m_from : Int32) (m_kind : Int32) (m_number : Int32) (m_fault : Int32) (m_place : Int32) (m_name : Int64) (m_happenings : Int32) (m_newHappenings : Int32) (m_heard : Int32) (m_outs : Int32) (a_tape : Nat → Int32) (a_happened : Nat → Int64) (a_many : Nat → Int32) (a_sort : Nat → Int32) (a_one : Nat → Int32) (a_other : Nat → Int32) (a_low : Nat → Int32) (a_high : Nat → Int32) (a_begins : Nat → Int32) (a_out : Nat → Int32) (a_left : Nat → Int32) (a_far : Nat → Int32) (a_quarrel : Nat → Int32) (a_early : Nat → Int32) (a_earlyLast : Nat → Int32) (res : Int32 × (Nat → Int32) × (Nat → Int32) × (Nat → Int32)) : State → Prop := MQ below (va_Qv (fun (_ : Unit) => True) (fun _ t => va_P D vwCl (wls ad (eR ad y m_thrown m_taped m_size m_to m_from m_kind m_number m_fault m_place m_name m_happenings m_newHappenings m_heard m_outs res.1 a_tape a_happened a_many a_sort a_one a_other a_low a_high a_begins a_out res.2.1 res.2.2.1 res.2.2.2 a_left a_far a_quarrel a_early a_earlyLast)) t.heap) (Aw ad 19 s.heap.size)) args s 0 0 (Aw ad 19 s.heap.size)
set_option maxHeartbeats 4000000 in
set_option maxRecDepth 100000 in
theorem kw_X12_gather_7 {p : Program} {l : Launch} {e : Env} {s : State} {m : MethodId} {args : Array Value} {below : List Frame} {meth : Method} {c : Code} {D : va_G} {ad : Nat → Nat} {y : Nat → ClassId} (C0 : CXT wsX12_gather cX12_gather RX12 4 none D (tyL y) (STR ad) p s m args meth c) {m_thrown : Int32} {m_taped : Int32} {m_size : Int32} {m_to : Int32} {m_from : Int32} {m_kind : Int32} {m_number : Int32} {m_fault : Int32} {m_place : Int32} {m_name : Int64} {m_happenings : Int32} {m_newHappenings : Int32} {m_heard : Int32} {m_outs : Int32} {a_tape : Nat → Int32} {a_happened : Nat → Int64} {a_many : Nat → Int32} {a_sort : Nat → Int32} {a_one : Nat → Int32} {a_other : Nat → Int32} {a_low : Nat → Int32} {a_high : Nat → Int32} {a_begins : Nat → Int32} {a_out : Nat → Int32} {a_left : Nat → Int32} {a_far : Nat → Int32} {a_quarrel : Nat → Int32} {a_early : Nat → Int32} {a_earlyLast : Nat → Int32} {u1 : Int32} {res : Int32 × (Nat → Int32) × (Nat → Int32) × (Nat → Int32)} {sg : Int32 × Int32 × (Nat → Int32) × (Nat → Int32) × (Nat → Int32)} {o : (Int32 × Int32 × (Nat → Int32) × (Nat → Int32) × (Nat → Int32)) ⊕ (Int32 × Int32 × (Nat → Int32) × (Nat → Int32) × (Nat → Int32))} (hf : f_X12_gather_l7 m_happenings a_many a_sort a_one a_other a_low a_high a_left u1 sg = some o) {H : Heap} {locs : List Loc} {ls : Array Slot} (hw : Wo D ad (Aw ad 19 s.heap.size) (eR ad y m_thrown m_taped m_size m_to m_from m_kind m_number m_fault m_place m_name m_happenings m_newHappenings m_heard m_outs sg.2.1 a_tape a_happened a_many a_sort a_one a_other a_low a_high a_begins a_out sg.2.2.1 sg.2.2.2.1 sg.2.2.2.2 a_left a_far a_quarrel a_early a_earlyLast) s.heap H locs) (hl : lv_has ls 4 [(0, .ref (ad 0)), (1, .int u1), (2, .int sg.1)]) (hcont : ∀ s2, o = .inl s2 → ∀ (H : Heap) (locs : List Loc) (ls : Array Slot), Wo D ad (Aw ad 19 s.heap.size) (eR ad y m_thrown m_taped m_size m_to m_from m_kind m_number m_fault m_place m_name m_happenings m_newHappenings m_heard m_outs s2.2.1 a_tape a_happened a_many a_sort a_one a_other a_low a_high a_begins a_out s2.2.2.1 s2.2.2.2.1 s2.2.2.2.2 a_left a_far a_quarrel a_early a_earlyLast) s.heap H locs → lv_has ls 4 [(0, .ref (ad 0)), (1, .int u1), (2, .int s2.1)] → W p l e rm_X12_gather s m args below meth c H locs 0 0 (QM_X12_gather below args s D ad y (m_thrown) (m_taped) (m_size) (m_to) (m_from) (m_kind) (m_number) (m_fault) (m_place) (m_name) (m_happenings) (m_newHappenings) (m_heard) (m_outs) (a_tape) (a_happened) (a_many) (a_sort) (a_one) (a_other) (a_low) (a_high) (a_begins) (a_out) (a_left) (a_far) (a_quarrel) (a_early) (a_earlyLast) res) (F0 m 7 ls [])) (hexit : ∀ t, o = .inr t → ∀ (H : Heap) (locs : List Loc) (ls : Array Slot), Wo D ad (Aw ad 19 s.heap.size) (eR ad y m_thrown m_taped m_size m_to m_from m_kind m_number m_fault m_place m_name m_happenings m_newHappenings m_heard m_outs t.2.1 a_tape a_happened a_many a_sort a_one a_other a_low a_high a_begins a_out t.2.2.1 t.2.2.2.1 t.2.2.2.2 a_left a_far a_quarrel a_early a_earlyLast) s.heap H locs → lv_has ls 4 [(0, .ref (ad 0)), (1, .int u1), (2, .int t.1)] → W p l e rm_X12_gather s m args below meth c H locs 0 0 (QM_X12_gather below args s D ad y (m_thrown) (m_taped) (m_size) (m_to) (m_from) (m_kind) (m_number) (m_fault) (m_place) (m_name) (m_happenings) (m_newHappenings) (m_heard) (m_outs) (a_tape) (a_happened) (a_many) (a_sort) (a_one) (a_other) (a_low) (a_high) (a_begins) (a_out) (a_left) (a_far) (a_quarrel) (a_early) (a_earlyLast) res) (F0 m 60 ls [])) : W p l e rm_X12_gather s m args below meth c H locs 0 0 (QM_X12_gather below args s D ad y (m_thrown) (m_taped) (m_size) (m_to) (m_from) (m_kind) (m_number) (m_fault) (m_place) (m_name) (m_happenings) (m_newHappenings) (m_heard) (m_outs) (a_tape) (a_happened) (a_many) (a_sort) (a_one) (a_other) (a_low) (a_high) (a_begins) (a_out) (a_left) (a_far) (a_quarrel) (a_early) (a_earlyLast) res) (F0 m 7 ls []) := by
  obtain ⟨hx, hb, hr, hml, hown, hts, hlocks, hK, hst⟩ := id C0
  have i_X12 : ∀ w ∈ u_ws RX12 TX12 33, w ∈ wsX12_gather := by decide +kernel
  have L_181 := hts (.fieldLink RX12 181 "CaseOrderModel" "happenings" "I") (by decide +kernel)
  unfold f_X12_gather_l7 at hf
  refine lv_iload_n hx hb dX12_gather_7 rfl (lv_at hl 2 rfl) ?_
  refine lv_aload_n hx hb dX12_gather_8 rfl (lv_at hl 0 rfl) ?_
  refine g_get hx hb hts i_X12 hown hK hw 0 eR_c0 rfl 12 (by decide) L_181 (fun _ h => h) rfl dX12_gather_9 ?_
  refine lv_icmp_ge (tgt := 60) hx hb dX12_gather_12 (by decide) (fun c7 => ?_) (fun c7 => ?_)
  · have hf := it_p c7 hf
    exact hexit _ (so hf).symm _ _ _ hw (lv_sub hl [0, 1, 2] rfl)
  · have hf := it_n c7 hf
    refine lv_aload_n hx hb dX12_gather_15 rfl (lv_at hl 0 rfl) ?_
    refine lv_iconst (v := 1) hx hb dX12_gather_16 (by decide) ?_
    refine lv_iconst (v := 2) hx hb dX12_gather_17 (by decide) ?_
    refine lv_iload_n hx hb dX12_gather_18 rfl (lv_at hl 2 rfl) ?_
    refine lv_imul hx hb dX12_gather_19 ?_
    refine lv_iadd hx hb dX12_gather_20 ?_
    refine lv_iconst (v := 0) hx hb dX12_gather_21 (by decide) ?_
    refine lv_iconst (v := 0) hx hb dX12_gather_22 (by decide) ?_
    obtain ⟨q8, hq8, hf⟩ := bd hf
    refine g_Vv (As := [.int (1 + (2 * sg.1)), .int 0, .int 0]) (rest := []) ⟨hx, hb, hml, hown, hts⟩ (k_X12_atMost hq8) (cwV 3 hts gX12_gather_X12_atMost rfl rfl rfl (by decide +kernel) ⟨Nat.le_of_ble_eq_true rfl, Nat.le_of_ble_eq_true rfl⟩) STR_ok hst hK hw rfl eR_c0 rfl rfl hl.1 rfl (Nat.le_of_ble_eq_true rfl) dX12_gather_23 ⟨Nat.zero_le _, Nat.zero_le _⟩ (fun H locs hw => ?_)
    have hw : Wo D ad (Aw ad 19 s.heap.size) (eR ad y m_thrown m_taped m_size m_to m_from m_kind m_number m_fault m_place m_name m_happenings m_newHappenings m_heard m_outs q8.1 a_tape a_happened a_many a_sort a_one a_other a_low a_high a_begins a_out q8.2.1 q8.2.2.1 q8.2.2.2 a_left a_far a_quarrel a_early a_earlyLast) s.heap H locs := hw
    refine lv_aload_n hx hb dX12_gather_26 rfl (lv_at hl 0 rfl) ?_
    refine lv_iconst (v := 2) hx hb dX12_gather_27 (by decide) ?_
    refine lv_iconst (v := 2) hx hb dX12_gather_28 (by decide) ?_
    refine lv_iload_n hx hb dX12_gather_29 rfl (lv_at hl 2 rfl) ?_
    refine lv_imul hx hb dX12_gather_30 ?_
    refine lv_iadd hx hb dX12_gather_31 ?_
    refine lv_iconst (v := 1) hx hb dX12_gather_32 (by decide) ?_
    refine lv_iconst (v := 2) hx hb dX12_gather_33 (by decide) ?_
    refine lv_iload_n hx hb dX12_gather_34 rfl (lv_at hl 2 rfl) ?_
    refine lv_imul hx hb dX12_gather_35 ?_
    refine lv_iadd hx hb dX12_gather_36 ?_
    refine lv_iconst (v := 0) hx hb dX12_gather_37 (by decide) ?_
    obtain ⟨q9, hq9, hf⟩ := bd hf
    refine g_Vv (As := [.int (2 + (2 * sg.1)), .int (1 + (2 * sg.1)), .int 0]) (rest := []) ⟨hx, hb, hml, hown, hts⟩ (k_X12_atMost hq9) (cwV 3 hts gX12_gather_X12_atMost rfl rfl rfl (by decide +kernel) ⟨Nat.le_of_ble_eq_true rfl, Nat.le_of_ble_eq_true rfl⟩) STR_ok hst hK hw rfl eR_c0 rfl rfl hl.1 rfl (Nat.le_of_ble_eq_true rfl) dX12_gather_38 ⟨Nat.zero_le _, Nat.zero_le _⟩ (fun H locs hw => ?_)
    have hw : Wo D ad (Aw ad 19 s.heap.size) (eR ad y m_thrown m_taped m_size m_to m_from m_kind m_number m_fault m_place m_name m_happenings m_newHappenings m_heard m_outs q9.1 a_tape a_happened a_many a_sort a_one a_other a_low a_high a_begins a_out q9.2.1 q9.2.2.1 q9.2.2.2 a_left a_far a_quarrel a_early a_earlyLast) s.heap H locs := hw
    refine lv_aload_n hx hb dX12_gather_41 rfl (lv_at hl 0 rfl) ?_
    refine lv_iconst (v := 0) hx hb dX12_gather_42 (by decide) ?_
    refine lv_iconst (v := 2) hx hb dX12_gather_43 (by decide) ?_
    refine lv_iconst (v := 2) hx hb dX12_gather_44 (by decide) ?_
    refine lv_iload_n hx hb dX12_gather_45 rfl (lv_at hl 2 rfl) ?_
    refine lv_imul hx hb dX12_gather_46 ?_
    refine lv_iadd hx hb dX12_gather_47 ?_
    refine lv_sipush (v := 9999) hx hb dX12_gather_48 (by decide) ?_
    obtain ⟨q10, hq10, hf⟩ := bd hf
    refine g_Vv (As := [.int 0, .int (2 + (2 * sg.1)), .int 9999]) (rest := []) ⟨hx, hb, hml, hown, hts⟩ (k_X12_atMost hq10) (cwV 3 hts gX12_gather_X12_atMost rfl rfl rfl (by decide +kernel) ⟨Nat.le_of_ble_eq_true rfl, Nat.le_of_ble_eq_true rfl⟩) STR_ok hst hK hw rfl eR_c0 rfl rfl hl.1 rfl (Nat.le_of_ble_eq_true rfl) dX12_gather_51 ⟨Nat.zero_le _, Nat.zero_le _⟩ (fun H locs hw => ?_)
    have hw : Wo D ad (Aw ad 19 s.heap.size) (eR ad y m_thrown m_taped m_size m_to m_from m_kind m_number m_fault m_place m_name m_happenings m_newHappenings m_heard m_outs q10.1 a_tape a_happened a_many a_sort a_one a_other a_low a_high a_begins a_out q10.2.1 q10.2.2.1 q10.2.2.2 a_left a_far a_quarrel a_early a_earlyLast) s.heap H locs := hw
    refine lv_iinc (v := sg.1 + 1) (lv' := [(2, .int (sg.1 + 1)), (0, .ref (ad 0)), (1, .int u1)]) hx hb dX12_gather_54 hl (k := 2) rfl rfl (by decide) rfl (fun ls hl => ?_)
    refine lv_goto (tgt := 7) hx hb dX12_gather_57 (by decide) ?_
    exact hcont _ (so hf).symm _ _ _ hw (lv_sub hl [1, 2, 0] rfl)
set_option maxHeartbeats 4000000 in
theorem kl_X12_gather_7 {p : Program} {l : Launch} {e : Env} {s : State} {m : MethodId} {args : Array Value} {below : List Frame} {meth : Method} {c : Code} {D : va_G} {ad : Nat → Nat} {y : Nat → ClassId} (C0 : CXT wsX12_gather cX12_gather RX12 4 none D (tyL y) (STR ad) p s m args meth c) {m_thrown : Int32} {m_taped : Int32} {m_size : Int32} {m_to : Int32} {m_from : Int32} {m_kind : Int32} {m_number : Int32} {m_fault : Int32} {m_place : Int32} {m_name : Int64} {m_happenings : Int32} {m_newHappenings : Int32} {m_heard : Int32} {m_outs : Int32} {a_tape : Nat → Int32} {a_happened : Nat → Int64} {a_many : Nat → Int32} {a_sort : Nat → Int32} {a_one : Nat → Int32} {a_other : Nat → Int32} {a_low : Nat → Int32} {a_high : Nat → Int32} {a_begins : Nat → Int32} {a_out : Nat → Int32} {a_left : Nat → Int32} {a_far : Nat → Int32} {a_quarrel : Nat → Int32} {a_early : Nat → Int32} {a_earlyLast : Nat → Int32} {u1 : Int32} {res : Int32 × (Nat → Int32) × (Nat → Int32) × (Nat → Int32)} : ∀ (n : Nat) (sg : Int32 × Int32 × (Nat → Int32) × (Nat → Int32) × (Nat → Int32)) (q : Int32 × Int32 × (Nat → Int32) × (Nat → Int32) × (Nat → Int32)), lp (f_X12_gather_l7 m_happenings a_many a_sort a_one a_other a_low a_high a_left u1) n sg = some q → ∀ (H : Heap) (locs : List Loc) (ls : Array Slot), Wo D ad (Aw ad 19 s.heap.size) (eR ad y m_thrown m_taped m_size m_to m_from m_kind m_number m_fault m_place m_name m_happenings m_newHappenings m_heard m_outs sg.2.1 a_tape a_happened a_many a_sort a_one a_other a_low a_high a_begins a_out sg.2.2.1 sg.2.2.2.1 sg.2.2.2.2 a_left a_far a_quarrel a_early a_earlyLast) s.heap H locs → lv_has ls 4 [(0, .ref (ad 0)), (1, .int u1), (2, .int sg.1)] → (∀ (H : Heap) (locs : List Loc) (ls : Array Slot), Wo D ad (Aw ad 19 s.heap.size) (eR ad y m_thrown m_taped m_size m_to m_from m_kind m_number m_fault m_place m_name m_happenings m_newHappenings m_heard m_outs q.2.1 a_tape a_happened a_many a_sort a_one a_other a_low a_high a_begins a_out q.2.2.1 q.2.2.2.1 q.2.2.2.2 a_left a_far a_quarrel a_early a_earlyLast) s.heap H locs → lv_has ls 4 [(0, .ref (ad 0)), (1, .int u1), (2, .int q.1)] → W p l e rm_X12_gather s m args below meth c H locs 0 0 (QM_X12_gather below args s D ad y (m_thrown) (m_taped) (m_size) (m_to) (m_from) (m_kind) (m_number) (m_fault) (m_place) (m_name) (m_happenings) (m_newHappenings) (m_heard) (m_outs) (a_tape) (a_happened) (a_many) (a_sort) (a_one) (a_other) (a_low) (a_high) (a_begins) (a_out) (a_left) (a_far) (a_quarrel) (a_early) (a_earlyLast) res) (F0 m 60 ls [])) → W p l e rm_X12_gather s m args below meth c H locs 0 0 (QM_X12_gather below args s D ad y (m_thrown) (m_taped) (m_size) (m_to) (m_from) (m_kind) (m_number) (m_fault) (m_place) (m_name) (m_happenings) (m_newHappenings) (m_heard) (m_outs) (a_tape) (a_happened) (a_many) (a_sort) (a_one) (a_other) (a_low) (a_high) (a_begins) (a_out) (a_left) (a_far) (a_quarrel) (a_early) (a_earlyLast) res) (F0 m 7 ls []) := by
  intro n
  induction n with
  | zero => intro sg q hf; exact absurd hf lp_zero
  | succ n ih =>
    intro sg q hf H locs ls hw hl hexit
    rcases lp_succ hf with ⟨sg2, h1, h2⟩ | h1
    · exact kw_X12_gather_7 C0 h1 hw hl (fun s2 e2 H locs ls hw hl => by cases e2; exact ih _ q h2 H locs ls hw hl hexit) (fun t e2 => by cases e2)
    · exact kw_X12_gather_7 C0 h1 hw hl (fun s2 e2 => by cases e2) (fun t e2 => by cases e2; exact hexit)
set_option maxHeartbeats 4000000 in
set_option maxRecDepth 100000 in
theorem kw_X12_gather_70 {p : Program} {l : Launch} {e : Env} {s : State} {m : MethodId} {args : Array Value} {below : List Frame} {meth : Method} {c : Code} {D : va_G} {ad : Nat → Nat} {y : Nat → ClassId} (C0 : CXT wsX12_gather cX12_gather RX12 4 none D (tyL y) (STR ad) p s m args meth c) {m_thrown : Int32} {m_taped : Int32} {m_size : Int32} {m_to : Int32} {m_from : Int32} {m_kind : Int32} {m_number : Int32} {m_fault : Int32} {m_place : Int32} {m_name : Int64} {m_happenings : Int32} {m_newHappenings : Int32} {m_heard : Int32} {m_outs : Int32} {a_tape : Nat → Int32} {a_happened : Nat → Int64} {a_many : Nat → Int32} {a_sort : Nat → Int32} {a_one : Nat → Int32} {a_other : Nat → Int32} {a_low : Nat → Int32} {a_high : Nat → Int32} {a_begins : Nat → Int32} {a_out : Nat → Int32} {a_left : Nat → Int32} {a_far : Nat → Int32} {a_quarrel : Nat → Int32} {a_early : Nat → Int32} {a_earlyLast : Nat → Int32} {u1 : Int32} {u2 : Int32} {res : Int32 × (Nat → Int32) × (Nat → Int32) × (Nat → Int32)} {sg : Int32 × Int32 × (Nat → Int32) × (Nat → Int32) × (Nat → Int32)} {o : (Int32 × Int32 × (Nat → Int32) × (Nat → Int32) × (Nat → Int32)) ⊕ (Int32 × Int32 × (Nat → Int32) × (Nat → Int32) × (Nat → Int32))} (hf : f_X12_gather_l70 m_happenings a_many a_sort a_one a_other a_low a_high a_left u1 u2 sg = some o) {H : Heap} {locs : List Loc} {ls : Array Slot} (hw : Wo D ad (Aw ad 19 s.heap.size) (eR ad y m_thrown m_taped m_size m_to m_from m_kind m_number m_fault m_place m_name m_happenings m_newHappenings m_heard m_outs sg.2.1 a_tape a_happened a_many a_sort a_one a_other a_low a_high a_begins a_out sg.2.2.1 sg.2.2.2.1 sg.2.2.2.2 a_left a_far a_quarrel a_early a_earlyLast) s.heap H locs) (hl : lv_has ls 4 [(0, .ref (ad 0)), (1, .int u1), (2, .int u2), (3, .int sg.1)]) (hcont : ∀ s2, o = .inl s2 → ∀ (H : Heap) (locs : List Loc) (ls : Array Slot), Wo D ad (Aw ad 19 s.heap.size) (eR ad y m_thrown m_taped m_size m_to m_from m_kind m_number m_fault m_place m_name m_happenings m_newHappenings m_heard m_outs s2.2.1 a_tape a_happened a_many a_sort a_one a_other a_low a_high a_begins a_out s2.2.2.1 s2.2.2.2.1 s2.2.2.2.2 a_left a_far a_quarrel a_early a_earlyLast) s.heap H locs → lv_has ls 4 [(0, .ref (ad 0)), (1, .int u1), (2, .int u2), (3, .int s2.1)] → W p l e rm_X12_gather s m args below meth c H locs 0 0 (QM_X12_gather below args s D ad y (m_thrown) (m_taped) (m_size) (m_to) (m_from) (m_kind) (m_number) (m_fault) (m_place) (m_name) (m_happenings) (m_newHappenings) (m_heard) (m_outs) (a_tape) (a_happened) (a_many) (a_sort) (a_one) (a_other) (a_low) (a_high) (a_begins) (a_out) (a_left) (a_far) (a_quarrel) (a_early) (a_earlyLast) res) (F0 m 70 ls [])) (hexit : ∀ t, o = .inr t → ∀ (H : Heap) (locs : List Loc) (ls : Array Slot), Wo D ad (Aw ad 19 s.heap.size) (eR ad y m_thrown m_taped m_size m_to m_from m_kind m_number m_fault m_place m_name m_happenings m_newHappenings m_heard m_outs t.2.1 a_tape a_happened a_many a_sort a_one a_other a_low a_high a_begins a_out t.2.2.1 t.2.2.2.1 t.2.2.2.2 a_left a_far a_quarrel a_early a_earlyLast) s.heap H locs → lv_has ls 4 [(0, .ref (ad 0)), (1, .int u1), (2, .int u2), (3, .int t.1)] → W p l e rm_X12_gather s m args below meth c H locs 0 0 (QM_X12_gather below args s D ad y (m_thrown) (m_taped) (m_size) (m_to) (m_from) (m_kind) (m_number) (m_fault) (m_place) (m_name) (m_happenings) (m_newHappenings) (m_heard) (m_outs) (a_tape) (a_happened) (a_many) (a_sort) (a_one) (a_other) (a_low) (a_high) (a_begins) (a_out) (a_left) (a_far) (a_quarrel) (a_early) (a_earlyLast) res) (F0 m 119 ls [])) : W p l e rm_X12_gather s m args below meth c H locs 0 0 (QM_X12_gather below args s D ad y (m_thrown) (m_taped) (m_size) (m_to) (m_from) (m_kind) (m_number) (m_fault) (m_place) (m_name) (m_happenings) (m_newHappenings) (m_heard) (m_outs) (a_tape) (a_happened) (a_many) (a_sort) (a_one) (a_other) (a_low) (a_high) (a_begins) (a_out) (a_left) (a_far) (a_quarrel) (a_early) (a_earlyLast) res) (F0 m 70 ls []) := by
  obtain ⟨hx, hb, hr, hml, hown, hts, hlocks, hK, hst⟩ := id C0
  have i_X12 : ∀ w ∈ u_ws RX12 TX12 33, w ∈ wsX12_gather := by decide +kernel
  have L_17 := hts (.fieldLink RX12 17 "CaseOrderModel" "many" "[I") (by decide +kernel)
  have L_54 := hts (.fieldLink RX12 54 "CaseOrderModel" "left" "[Z") (by decide +kernel)
  unfold f_X12_gather_l70 at hf
  refine lv_iload_n hx hb dX12_gather_70 rfl (lv_at hl 3 rfl) ?_
  refine lv_aload_n hx hb dX12_gather_71 rfl (lv_at hl 0 rfl) ?_
  refine g_get hx hb hts i_X12 hown hK hw 0 eR_c0 rfl 14 (by decide) L_17 (fun _ h => h) rfl dX12_gather_72 ?_
  refine lv_iload_n hx hb dX12_gather_75 rfl (lv_at hl 2 rfl) ?_
  obtain ⟨g13, hf⟩ := gIn_some hf
  refine g_iald hx hb hK hw 3 1 eR_c3 rfl g13 dX12_gather_76 ?_
  refine lv_icmp_ge (tgt := 119) hx hb dX12_gather_77 (by decide) (fun c14 => ?_) (fun c14 => ?_)
  · have hf := it_p c14 hf
    exact hexit _ (so hf).symm _ _ _ hw (lv_sub hl [0, 1, 2, 3] rfl)
  · have hf := it_n c14 hf
    refine lv_iload_n hx hb dX12_gather_80 rfl (lv_at hl 1 rfl) ?_
    refine lv_iload_n hx hb dX12_gather_81 rfl (lv_at hl 2 rfl) ?_
    refine lv_ishr hx hb dX12_gather_82 ?_
    refine lv_iconst (v := 1) hx hb dX12_gather_83 (by decide) ?_
    refine lv_iand hx hb dX12_gather_84 ?_
    refine lv_iconst (v := 1) hx hb dX12_gather_85 (by decide) ?_
    refine lv_icmp_ne (tgt := 113) hx hb dX12_gather_86 (by decide) (fun c15 => ?_) (fun c15 => ?_)
    · have hf := it_n c15 hf
      refine lv_iinc (v := sg.1 + 1) (lv' := [(3, .int (sg.1 + 1)), (0, .ref (ad 0)), (1, .int u1), (2, .int u2)]) hx hb dX12_gather_113 hl (k := 3) rfl rfl (by decide) rfl (fun ls hl => ?_)
      refine lv_goto (tgt := 70) hx hb dX12_gather_116 (by decide) ?_
      exact hcont _ (so hf).symm _ _ _ hw (lv_sub hl [1, 2, 3, 0] rfl)
    · have hf := it_p c15 hf
      refine lv_aload_n hx hb dX12_gather_89 rfl (lv_at hl 0 rfl) ?_
      refine g_get hx hb hts i_X12 hown hK hw 0 eR_c0 rfl 28 (by decide) L_54 (fun _ h => h) rfl dX12_gather_90 ?_
      refine lv_bipush (v := 12) hx hb dX12_gather_93 (by decide) ?_
      refine lv_iload_n hx hb dX12_gather_95 rfl (lv_at hl 2 rfl) ?_
      refine lv_imul hx hb dX12_gather_96 ?_
      refine lv_iload_n hx hb dX12_gather_97 rfl (lv_at hl 3 rfl) ?_
      refine lv_iadd hx hb dX12_gather_98 ?_
      obtain ⟨g16, hf⟩ := gIn_some hf
      refine g_zald hx hb hK hw 14 2 eR_c14 rfl g16 dX12_gather_99 ?_
      refine lv_if_ne (tgt := 113) hx hb dX12_gather_100 (by decide) (fun c17 => ?_) (fun c17 => ?_)
      · have hf := it_n c17 hf
        refine lv_iinc (v := sg.1 + 1) (lv' := [(3, .int (sg.1 + 1)), (0, .ref (ad 0)), (1, .int u1), (2, .int u2)]) hx hb dX12_gather_113 hl (k := 3) rfl rfl (by decide) rfl (fun ls hl => ?_)
        refine lv_goto (tgt := 70) hx hb dX12_gather_116 (by decide) ?_
        exact hcont _ (so hf).symm _ _ _ hw (lv_sub hl [1, 2, 3, 0] rfl)
      · have hf := it_p c17 hf
        refine lv_aload_n hx hb dX12_gather_103 rfl (lv_at hl 0 rfl) ?_
        refine lv_bipush (v := 12) hx hb dX12_gather_104 (by decide) ?_
        refine lv_iload_n hx hb dX12_gather_106 rfl (lv_at hl 2 rfl) ?_
        refine lv_imul hx hb dX12_gather_107 ?_
        refine lv_iload_n hx hb dX12_gather_108 rfl (lv_at hl 3 rfl) ?_
        refine lv_iadd hx hb dX12_gather_109 ?_
        obtain ⟨q18, hq18, hf⟩ := bd hf
        refine g_Vv (As := [.int ((12 * u2) + sg.1)]) (rest := []) ⟨hx, hb, hml, hown, hts⟩ (k_X12_say hq18) (cwV 1 hts gX12_gather_X12_say rfl rfl rfl (by decide +kernel) ⟨Nat.le_of_ble_eq_true rfl, Nat.le_of_ble_eq_true rfl⟩) STR_ok hst hK hw rfl eR_c0 rfl rfl hl.1 rfl (Nat.le_of_ble_eq_true rfl) dX12_gather_110 ⟨Nat.zero_le _, Nat.zero_le _⟩ (fun H locs hw => ?_)
        have hw : Wo D ad (Aw ad 19 s.heap.size) (eR ad y m_thrown m_taped m_size m_to m_from m_kind m_number m_fault m_place m_name m_happenings m_newHappenings m_heard m_outs q18.1 a_tape a_happened a_many a_sort a_one a_other a_low a_high a_begins a_out q18.2.1 q18.2.2.1 q18.2.2.2 a_left a_far a_quarrel a_early a_earlyLast) s.heap H locs := hw
        refine lv_iinc (v := sg.1 + 1) (lv' := [(3, .int (sg.1 + 1)), (0, .ref (ad 0)), (1, .int u1), (2, .int u2)]) hx hb dX12_gather_113 hl (k := 3) rfl rfl (by decide) rfl (fun ls hl => ?_)
        refine lv_goto (tgt := 70) hx hb dX12_gather_116 (by decide) ?_
        exact hcont _ (so hf).symm _ _ _ hw (lv_sub hl [1, 2, 3, 0] rfl)
set_option maxHeartbeats 4000000 in
theorem kl_X12_gather_70 {p : Program} {l : Launch} {e : Env} {s : State} {m : MethodId} {args : Array Value} {below : List Frame} {meth : Method} {c : Code} {D : va_G} {ad : Nat → Nat} {y : Nat → ClassId} (C0 : CXT wsX12_gather cX12_gather RX12 4 none D (tyL y) (STR ad) p s m args meth c) {m_thrown : Int32} {m_taped : Int32} {m_size : Int32} {m_to : Int32} {m_from : Int32} {m_kind : Int32} {m_number : Int32} {m_fault : Int32} {m_place : Int32} {m_name : Int64} {m_happenings : Int32} {m_newHappenings : Int32} {m_heard : Int32} {m_outs : Int32} {a_tape : Nat → Int32} {a_happened : Nat → Int64} {a_many : Nat → Int32} {a_sort : Nat → Int32} {a_one : Nat → Int32} {a_other : Nat → Int32} {a_low : Nat → Int32} {a_high : Nat → Int32} {a_begins : Nat → Int32} {a_out : Nat → Int32} {a_left : Nat → Int32} {a_far : Nat → Int32} {a_quarrel : Nat → Int32} {a_early : Nat → Int32} {a_earlyLast : Nat → Int32} {u1 : Int32} {u2 : Int32} {res : Int32 × (Nat → Int32) × (Nat → Int32) × (Nat → Int32)} : ∀ (n : Nat) (sg : Int32 × Int32 × (Nat → Int32) × (Nat → Int32) × (Nat → Int32)) (q : Int32 × Int32 × (Nat → Int32) × (Nat → Int32) × (Nat → Int32)), lp (f_X12_gather_l70 m_happenings a_many a_sort a_one a_other a_low a_high a_left u1 u2) n sg = some q → ∀ (H : Heap) (locs : List Loc) (ls : Array Slot), Wo D ad (Aw ad 19 s.heap.size) (eR ad y m_thrown m_taped m_size m_to m_from m_kind m_number m_fault m_place m_name m_happenings m_newHappenings m_heard m_outs sg.2.1 a_tape a_happened a_many a_sort a_one a_other a_low a_high a_begins a_out sg.2.2.1 sg.2.2.2.1 sg.2.2.2.2 a_left a_far a_quarrel a_early a_earlyLast) s.heap H locs → lv_has ls 4 [(0, .ref (ad 0)), (1, .int u1), (2, .int u2), (3, .int sg.1)] → (∀ (H : Heap) (locs : List Loc) (ls : Array Slot), Wo D ad (Aw ad 19 s.heap.size) (eR ad y m_thrown m_taped m_size m_to m_from m_kind m_number m_fault m_place m_name m_happenings m_newHappenings m_heard m_outs q.2.1 a_tape a_happened a_many a_sort a_one a_other a_low a_high a_begins a_out q.2.2.1 q.2.2.2.1 q.2.2.2.2 a_left a_far a_quarrel a_early a_earlyLast) s.heap H locs → lv_has ls 4 [(0, .ref (ad 0)), (1, .int u1), (2, .int u2), (3, .int q.1)] → W p l e rm_X12_gather s m args below meth c H locs 0 0 (QM_X12_gather below args s D ad y (m_thrown) (m_taped) (m_size) (m_to) (m_from) (m_kind) (m_number) (m_fault) (m_place) (m_name) (m_happenings) (m_newHappenings) (m_heard) (m_outs) (a_tape) (a_happened) (a_many) (a_sort) (a_one) (a_other) (a_low) (a_high) (a_begins) (a_out) (a_left) (a_far) (a_quarrel) (a_early) (a_earlyLast) res) (F0 m 119 ls [])) → W p l e rm_X12_gather s m args below meth c H locs 0 0 (QM_X12_gather below args s D ad y (m_thrown) (m_taped) (m_size) (m_to) (m_from) (m_kind) (m_number) (m_fault) (m_place) (m_name) (m_happenings) (m_newHappenings) (m_heard) (m_outs) (a_tape) (a_happened) (a_many) (a_sort) (a_one) (a_other) (a_low) (a_high) (a_begins) (a_out) (a_left) (a_far) (a_quarrel) (a_early) (a_earlyLast) res) (F0 m 70 ls []) := by
  intro n
  induction n with
  | zero => intro sg q hf; exact absurd hf lp_zero
  | succ n ih =>
    intro sg q hf H locs ls hw hl hexit
    rcases lp_succ hf with ⟨sg2, h1, h2⟩ | h1
    · exact kw_X12_gather_70 C0 h1 hw hl (fun s2 e2 H locs ls hw hl => by cases e2; exact ih _ q h2 H locs ls hw hl hexit) (fun t e2 => by cases e2)
    · exact kw_X12_gather_70 C0 h1 hw hl (fun s2 e2 => by cases e2) (fun t e2 => by cases e2; exact hexit)
set_option maxHeartbeats 4000000 in
set_option maxRecDepth 100000 in
theorem kw_X12_gather_62 {p : Program} {l : Launch} {e : Env} {s : State} {m : MethodId} {args : Array Value} {below : List Frame} {meth : Method} {c : Code} {D : va_G} {ad : Nat → Nat} {y : Nat → ClassId} (C0 : CXT wsX12_gather cX12_gather RX12 4 none D (tyL y) (STR ad) p s m args meth c) {m_thrown : Int32} {m_taped : Int32} {m_size : Int32} {m_to : Int32} {m_from : Int32} {m_kind : Int32} {m_number : Int32} {m_fault : Int32} {m_place : Int32} {m_name : Int64} {m_happenings : Int32} {m_newHappenings : Int32} {m_heard : Int32} {m_outs : Int32} {a_tape : Nat → Int32} {a_happened : Nat → Int64} {a_many : Nat → Int32} {a_sort : Nat → Int32} {a_one : Nat → Int32} {a_other : Nat → Int32} {a_low : Nat → Int32} {a_high : Nat → Int32} {a_begins : Nat → Int32} {a_out : Nat → Int32} {a_left : Nat → Int32} {a_far : Nat → Int32} {a_quarrel : Nat → Int32} {a_early : Nat → Int32} {a_earlyLast : Nat → Int32} {u1 : Int32} {res : Int32 × (Nat → Int32) × (Nat → Int32) × (Nat → Int32)} {sg : Int32 × Int32 × (Nat → Int32) × (Nat → Int32) × (Nat → Int32)} {o : (Int32 × Int32 × (Nat → Int32) × (Nat → Int32) × (Nat → Int32)) ⊕ (Int32 × Int32 × (Nat → Int32) × (Nat → Int32) × (Nat → Int32))} (hf : f_X12_gather_l62 m_happenings a_many a_sort a_one a_other a_low a_high a_left u1 sg = some o) {H : Heap} {locs : List Loc} {ls : Array Slot} (hw : Wo D ad (Aw ad 19 s.heap.size) (eR ad y m_thrown m_taped m_size m_to m_from m_kind m_number m_fault m_place m_name m_happenings m_newHappenings m_heard m_outs sg.2.1 a_tape a_happened a_many a_sort a_one a_other a_low a_high a_begins a_out sg.2.2.1 sg.2.2.2.1 sg.2.2.2.2 a_left a_far a_quarrel a_early a_earlyLast) s.heap H locs) (hl : lv_has ls 4 [(0, .ref (ad 0)), (1, .int u1), (2, .int sg.1)]) (hcont : ∀ s2, o = .inl s2 → ∀ (H : Heap) (locs : List Loc) (ls : Array Slot), Wo D ad (Aw ad 19 s.heap.size) (eR ad y m_thrown m_taped m_size m_to m_from m_kind m_number m_fault m_place m_name m_happenings m_newHappenings m_heard m_outs s2.2.1 a_tape a_happened a_many a_sort a_one a_other a_low a_high a_begins a_out s2.2.2.1 s2.2.2.2.1 s2.2.2.2.2 a_left a_far a_quarrel a_early a_earlyLast) s.heap H locs → lv_has ls 4 [(0, .ref (ad 0)), (1, .int u1), (2, .int s2.1)] → W p l e rm_X12_gather s m args below meth c H locs 0 0 (QM_X12_gather below args s D ad y (m_thrown) (m_taped) (m_size) (m_to) (m_from) (m_kind) (m_number) (m_fault) (m_place) (m_name) (m_happenings) (m_newHappenings) (m_heard) (m_outs) (a_tape) (a_happened) (a_many) (a_sort) (a_one) (a_other) (a_low) (a_high) (a_begins) (a_out) (a_left) (a_far) (a_quarrel) (a_early) (a_earlyLast) res) (F0 m 62 ls [])) (hexit : ∀ t, o = .inr t → ∀ (H : Heap) (locs : List Loc) (ls : Array Slot), Wo D ad (Aw ad 19 s.heap.size) (eR ad y m_thrown m_taped m_size m_to m_from m_kind m_number m_fault m_place m_name m_happenings m_newHappenings m_heard m_outs t.2.1 a_tape a_happened a_many a_sort a_one a_other a_low a_high a_begins a_out t.2.2.1 t.2.2.2.1 t.2.2.2.2 a_left a_far a_quarrel a_early a_earlyLast) s.heap H locs → lv_has ls 4 [(0, .ref (ad 0)), (1, .int u1), (2, .int t.1)] → W p l e rm_X12_gather s m args below meth c H locs 0 0 (QM_X12_gather below args s D ad y (m_thrown) (m_taped) (m_size) (m_to) (m_from) (m_kind) (m_number) (m_fault) (m_place) (m_name) (m_happenings) (m_newHappenings) (m_heard) (m_outs) (a_tape) (a_happened) (a_many) (a_sort) (a_one) (a_other) (a_low) (a_high) (a_begins) (a_out) (a_left) (a_far) (a_quarrel) (a_early) (a_earlyLast) res) (F0 m 125 ls [])) : W p l e rm_X12_gather s m args below meth c H locs 0 0 (QM_X12_gather below args s D ad y (m_thrown) (m_taped) (m_size) (m_to) (m_from) (m_kind) (m_number) (m_fault) (m_place) (m_name) (m_happenings) (m_newHappenings) (m_heard) (m_outs) (a_tape) (a_happened) (a_many) (a_sort) (a_one) (a_other) (a_low) (a_high) (a_begins) (a_out) (a_left) (a_far) (a_quarrel) (a_early) (a_earlyLast) res) (F0 m 62 ls []) := by
  obtain ⟨hx, hb, hr, hml, hown, hts, hlocks, hK, hst⟩ := id C0
  unfold f_X12_gather_l62 at hf
  refine lv_iload_n hx hb dX12_gather_62 rfl (lv_at hl 2 rfl) ?_
  refine lv_bipush (v := 6) hx hb dX12_gather_63 (by decide) ?_
  refine lv_icmp_ge (tgt := 125) hx hb dX12_gather_65 (by decide) (fun c12 => ?_) (fun c12 => ?_)
  · have hf := it_p c12 hf
    exact hexit _ (so hf).symm _ _ _ hw (lv_sub hl [0, 1, 2] rfl)
  · have hf := it_n c12 hf
    refine lv_iconst (v := 0) hx hb dX12_gather_68 (by decide) ?_
    refine lv_istore_n (lv' := [(3, .int 0), (0, .ref (ad 0)), (1, .int u1), (2, .int sg.1)]) hx hb dX12_gather_69 rfl hl (by decide) rfl (fun ls hl => ?_)
    obtain ⟨q19, hq19, hf⟩ := bd hf
    refine kl_X12_gather_70 C0 gFU _ _ hq19 _ _ _ hw (lv_sub hl [1, 2, 3, 0] rfl) (fun H locs ls hw hl => ?_)
    have hw : Wo D ad (Aw ad 19 s.heap.size) (eR ad y m_thrown m_taped m_size m_to m_from m_kind m_number m_fault m_place m_name m_happenings m_newHappenings m_heard m_outs q19.2.1 a_tape a_happened a_many a_sort a_one a_other a_low a_high a_begins a_out q19.2.2.1 q19.2.2.2.1 q19.2.2.2.2 a_left a_far a_quarrel a_early a_earlyLast) s.heap H locs := hw
    have hl : lv_has ls 4 [(0, .ref (ad 0)), (1, .int u1), (2, .int sg.1), (3, .int q19.1)] := hl
    refine lv_iinc (v := sg.1 + 1) (lv' := [(2, .int (sg.1 + 1)), (0, .ref (ad 0)), (1, .int u1), (3, .int q19.1)]) hx hb dX12_gather_119 hl (k := 2) rfl rfl (by decide) rfl (fun ls hl => ?_)
    refine lv_goto (tgt := 62) hx hb dX12_gather_122 (by decide) ?_
    exact hcont _ (so hf).symm _ _ _ hw (lv_sub hl [1, 2, 0] rfl)
set_option maxHeartbeats 4000000 in
theorem kl_X12_gather_62 {p : Program} {l : Launch} {e : Env} {s : State} {m : MethodId} {args : Array Value} {below : List Frame} {meth : Method} {c : Code} {D : va_G} {ad : Nat → Nat} {y : Nat → ClassId} (C0 : CXT wsX12_gather cX12_gather RX12 4 none D (tyL y) (STR ad) p s m args meth c) {m_thrown : Int32} {m_taped : Int32} {m_size : Int32} {m_to : Int32} {m_from : Int32} {m_kind : Int32} {m_number : Int32} {m_fault : Int32} {m_place : Int32} {m_name : Int64} {m_happenings : Int32} {m_newHappenings : Int32} {m_heard : Int32} {m_outs : Int32} {a_tape : Nat → Int32} {a_happened : Nat → Int64} {a_many : Nat → Int32} {a_sort : Nat → Int32} {a_one : Nat → Int32} {a_other : Nat → Int32} {a_low : Nat → Int32} {a_high : Nat → Int32} {a_begins : Nat → Int32} {a_out : Nat → Int32} {a_left : Nat → Int32} {a_far : Nat → Int32} {a_quarrel : Nat → Int32} {a_early : Nat → Int32} {a_earlyLast : Nat → Int32} {u1 : Int32} {res : Int32 × (Nat → Int32) × (Nat → Int32) × (Nat → Int32)} : ∀ (n : Nat) (sg : Int32 × Int32 × (Nat → Int32) × (Nat → Int32) × (Nat → Int32)) (q : Int32 × Int32 × (Nat → Int32) × (Nat → Int32) × (Nat → Int32)), lp (f_X12_gather_l62 m_happenings a_many a_sort a_one a_other a_low a_high a_left u1) n sg = some q → ∀ (H : Heap) (locs : List Loc) (ls : Array Slot), Wo D ad (Aw ad 19 s.heap.size) (eR ad y m_thrown m_taped m_size m_to m_from m_kind m_number m_fault m_place m_name m_happenings m_newHappenings m_heard m_outs sg.2.1 a_tape a_happened a_many a_sort a_one a_other a_low a_high a_begins a_out sg.2.2.1 sg.2.2.2.1 sg.2.2.2.2 a_left a_far a_quarrel a_early a_earlyLast) s.heap H locs → lv_has ls 4 [(0, .ref (ad 0)), (1, .int u1), (2, .int sg.1)] → (∀ (H : Heap) (locs : List Loc) (ls : Array Slot), Wo D ad (Aw ad 19 s.heap.size) (eR ad y m_thrown m_taped m_size m_to m_from m_kind m_number m_fault m_place m_name m_happenings m_newHappenings m_heard m_outs q.2.1 a_tape a_happened a_many a_sort a_one a_other a_low a_high a_begins a_out q.2.2.1 q.2.2.2.1 q.2.2.2.2 a_left a_far a_quarrel a_early a_earlyLast) s.heap H locs → lv_has ls 4 [(0, .ref (ad 0)), (1, .int u1), (2, .int q.1)] → W p l e rm_X12_gather s m args below meth c H locs 0 0 (QM_X12_gather below args s D ad y (m_thrown) (m_taped) (m_size) (m_to) (m_from) (m_kind) (m_number) (m_fault) (m_place) (m_name) (m_happenings) (m_newHappenings) (m_heard) (m_outs) (a_tape) (a_happened) (a_many) (a_sort) (a_one) (a_other) (a_low) (a_high) (a_begins) (a_out) (a_left) (a_far) (a_quarrel) (a_early) (a_earlyLast) res) (F0 m 125 ls [])) → W p l e rm_X12_gather s m args below meth c H locs 0 0 (QM_X12_gather below args s D ad y (m_thrown) (m_taped) (m_size) (m_to) (m_from) (m_kind) (m_number) (m_fault) (m_place) (m_name) (m_happenings) (m_newHappenings) (m_heard) (m_outs) (a_tape) (a_happened) (a_many) (a_sort) (a_one) (a_other) (a_low) (a_high) (a_begins) (a_out) (a_left) (a_far) (a_quarrel) (a_early) (a_earlyLast) res) (F0 m 62 ls []) := by
  intro n
  induction n with
  | zero => intro sg q hf; exact absurd hf lp_zero
  | succ n ih =>
    intro sg q hf H locs ls hw hl hexit
    rcases lp_succ hf with ⟨sg2, h1, h2⟩ | h1
    · exact kw_X12_gather_62 C0 h1 hw hl (fun s2 e2 H locs ls hw hl => by cases e2; exact ih _ q h2 H locs ls hw hl hexit) (fun t e2 => by cases e2)
    · exact kw_X12_gather_62 C0 h1 hw hl (fun s2 e2 => by cases e2) (fun t e2 => by cases e2; exact hexit)
set_option maxHeartbeats 4000000 in
set_option maxRecDepth 100000 in
theorem ke_X12_gather {p : Program} {l : Launch} {e : Env} {s : State} {m : MethodId} {args : Array Value} {below : List Frame} {meth : Method} {c : Code} {D : va_G} {ad : Nat → Nat} {y : Nat → ClassId} (C0 : CXT wsX12_gather cX12_gather RX12 4 none D (tyL y) (STR ad) p s m args meth c) {m_thrown : Int32} {m_taped : Int32} {m_size : Int32} {m_to : Int32} {m_from : Int32} {m_kind : Int32} {m_number : Int32} {m_fault : Int32} {m_place : Int32} {m_name : Int64} {m_happenings : Int32} {m_newHappenings : Int32} {m_heard : Int32} {m_outs : Int32} {m_bounds : Int32} {a_tape : Nat → Int32} {a_happened : Nat → Int64} {a_many : Nat → Int32} {a_sort : Nat → Int32} {a_one : Nat → Int32} {a_other : Nat → Int32} {a_low : Nat → Int32} {a_high : Nat → Int32} {a_begins : Nat → Int32} {a_out : Nat → Int32} {a_behind : Nat → Int32} {a_ahead : Nat → Int32} {a_most : Nat → Int32} {a_left : Nat → Int32} {a_far : Nat → Int32} {a_quarrel : Nat → Int32} {a_early : Nat → Int32} {a_earlyLast : Nat → Int32} {p1 : Int32} {res : Int32 × (Nat → Int32) × (Nat → Int32) × (Nat → Int32)} (hf : f_X12_gather m_happenings m_bounds a_many a_sort a_one a_other a_low a_high a_behind a_ahead a_most a_left p1 = some res) {H : Heap} {locs : List Loc} {ls : Array Slot} (hw : Wo D ad (Aw ad 19 s.heap.size) (eR ad y m_thrown m_taped m_size m_to m_from m_kind m_number m_fault m_place m_name m_happenings m_newHappenings m_heard m_outs m_bounds a_tape a_happened a_many a_sort a_one a_other a_low a_high a_begins a_out a_behind a_ahead a_most a_left a_far a_quarrel a_early a_earlyLast) s.heap H locs) (hl : lv_has ls 4 [(0, .ref (ad 0)), (1, .int p1)]) : W p l e rm_X12_gather s m args below meth c H locs 0 0 (QM_X12_gather below args s D ad y (m_thrown) (m_taped) (m_size) (m_to) (m_from) (m_kind) (m_number) (m_fault) (m_place) (m_name) (m_happenings) (m_newHappenings) (m_heard) (m_outs) (a_tape) (a_happened) (a_many) (a_sort) (a_one) (a_other) (a_low) (a_high) (a_begins) (a_out) (a_left) (a_far) (a_quarrel) (a_early) (a_earlyLast) res) (F0 m 0 ls []) := by
  obtain ⟨hx, hb, hr, hml, hown, hts, hlocks, hK, hst⟩ := id C0
  have i_X12 : ∀ w ∈ u_ws RX12 TX12 33, w ∈ wsX12_gather := by decide +kernel
  have L_203 := hts (.fieldLink RX12 203 "CaseOrderModel" "bounds" "I") (by decide +kernel)
  unfold f_X12_gather at hf
  refine lv_aload_n hx hb dX12_gather_0 rfl (lv_at hl 0 rfl) ?_
  refine lv_iconst (v := 0) hx hb dX12_gather_1 (by decide) ?_
  refine g_put (ty := .int) hx hb hts i_X12 tyX12 tyX12_ok nmX12 hown hK hw 0 eR_c0 rfl 27 (by decide) L_203 (fun _ h => h) rfl (by decide +kernel) rfl rfl (Nat.le_of_ble_eq_true rfl) dX12_gather_2 (fun H locs hw => ?_)
  have hw : Wo D ad (Aw ad 19 s.heap.size) (eR ad y m_thrown m_taped m_size m_to m_from m_kind m_number m_fault m_place m_name m_happenings m_newHappenings m_heard m_outs 0 a_tape a_happened a_many a_sort a_one a_other a_low a_high a_begins a_out a_behind a_ahead a_most a_left a_far a_quarrel a_early a_earlyLast) s.heap H locs := hw
  refine lv_iconst (v := 0) hx hb dX12_gather_5 (by decide) ?_
  refine lv_istore_n (lv' := [(2, .int 0), (0, .ref (ad 0)), (1, .int p1)]) hx hb dX12_gather_6 rfl hl (by decide) rfl (fun ls hl => ?_)
  obtain ⟨q11, hq11, hf⟩ := bd hf
  refine kl_X12_gather_7 C0 gFU _ _ hq11 _ _ _ hw (lv_sub hl [1, 2, 0] rfl) (fun H locs ls hw hl => ?_)
  have hw : Wo D ad (Aw ad 19 s.heap.size) (eR ad y m_thrown m_taped m_size m_to m_from m_kind m_number m_fault m_place m_name m_happenings m_newHappenings m_heard m_outs q11.2.1 a_tape a_happened a_many a_sort a_one a_other a_low a_high a_begins a_out q11.2.2.1 q11.2.2.2.1 q11.2.2.2.2 a_left a_far a_quarrel a_early a_earlyLast) s.heap H locs := hw
  have hl : lv_has ls 4 [(0, .ref (ad 0)), (1, .int p1), (2, .int q11.1)] := hl
  refine lv_iconst (v := 0) hx hb dX12_gather_60 (by decide) ?_
  refine lv_istore_n (lv' := [(2, .int 0), (0, .ref (ad 0)), (1, .int p1)]) hx hb dX12_gather_61 rfl hl (by decide) rfl (fun ls hl => ?_)
  obtain ⟨q20, hq20, hf⟩ := bd hf
  refine kl_X12_gather_62 C0 gFU _ _ hq20 _ _ _ hw (lv_sub hl [1, 2, 0] rfl) (fun H locs ls hw hl => ?_)
  have hw : Wo D ad (Aw ad 19 s.heap.size) (eR ad y m_thrown m_taped m_size m_to m_from m_kind m_number m_fault m_place m_name m_happenings m_newHappenings m_heard m_outs q20.2.1 a_tape a_happened a_many a_sort a_one a_other a_low a_high a_begins a_out q20.2.2.1 q20.2.2.2.1 q20.2.2.2.2 a_left a_far a_quarrel a_early a_earlyLast) s.heap H locs := hw
  have hl : lv_has ls 4 [(0, .ref (ad 0)), (1, .int p1), (2, .int q20.1)] := hl
  obtain rfl := so hf
  exact W.vret hx hb hr (fun t ht _ => g_endv hw t ht) hw.2.2.2.2 dX12_gather_125
set_option maxHeartbeats 4000000 in
theorem k_X12_gather {l : Launch} {D : va_G} {ad : Nat → Nat} {y : Nat → ClassId} {m_thrown : Int32} {m_taped : Int32} {m_size : Int32} {m_to : Int32} {m_from : Int32} {m_kind : Int32} {m_number : Int32} {m_fault : Int32} {m_place : Int32} {m_name : Int64} {m_happenings : Int32} {m_newHappenings : Int32} {m_heard : Int32} {m_outs : Int32} {m_bounds : Int32} {a_tape : Nat → Int32} {a_happened : Nat → Int64} {a_many : Nat → Int32} {a_sort : Nat → Int32} {a_one : Nat → Int32} {a_other : Nat → Int32} {a_low : Nat → Int32} {a_high : Nat → Int32} {a_begins : Nat → Int32} {a_out : Nat → Int32} {a_behind : Nat → Int32} {a_ahead : Nat → Int32} {a_most : Nat → Int32} {a_left : Nat → Int32} {a_far : Nat → Int32} {a_quarrel : Nat → Int32} {a_early : Nat → Int32} {a_earlyLast : Nat → Int32} {p1 : Int32} {res : Int32 × (Nat → Int32) × (Nat → Int32) × (Nat → Int32)} (hf : f_X12_gather m_happenings m_bounds a_many a_sort a_one a_other a_low a_high a_behind a_ahead a_most a_left p1 = some res) : CTv l yX12_gather wsX12_gather rm_X12_gather D ad 19 (tyL y) (STR ad) (eR ad y m_thrown m_taped m_size m_to m_from m_kind m_number m_fault m_place m_name m_happenings m_newHappenings m_heard m_outs m_bounds a_tape a_happened a_many a_sort a_one a_other a_low a_high a_begins a_out a_behind a_ahead a_most a_left a_far a_quarrel a_early a_earlyLast) (eR ad y m_thrown m_taped m_size m_to m_from m_kind m_number m_fault m_place m_name m_happenings m_newHappenings m_heard m_outs res.1 a_tape a_happened a_many a_sort a_one a_other a_low a_high a_begins a_out res.2.1 res.2.2.1 res.2.2.2 a_left a_far a_quarrel a_early a_earlyLast) [.ref (ad 0), .int p1] := by
  intro sz
  refine Met.ofW (cc := cX12_gather) (maxL := 4) (ret := none) (by decide) rfl ?_
  intro p e s m args below meth c s₁ B hml hv
  obtain ⟨rfl, hsz, hP, hK, hD0, hst⟩ := hv
  subst hsz
  have C0 : CXT wsX12_gather cX12_gather RX12 4 none D (tyL y) (STR ad) p s m ([.ref (ad 0), .int p1] : List Value).toArray meth c := ⟨B.exec, B.bytes, B.returns, hml, findClass_of_methodNamed B.named, atoms_spec (ws := wsX12_gather) B.pre, B.notSynchronized, hK, hst⟩
  have hw := g_start (n := 19) rfl hP hD0
  have hl := lv_entry ([.ref (ad 0), .int p1]) (n := 4) (Nat.le_of_ble_eq_true rfl)
  rw [lg_entry_eq]
  generalize (lg_sl ([.ref (ad 0), .int p1]) ++ List.replicate (4 - (lg_sl ([.ref (ad 0), .int p1])).length) Slot.unset).toArray = ls at hl ⊢
  have hl : lv_has ls 4 [(0, .ref (ad 0)), (1, .int p1)] := hl
  exact ke_X12_gather C0 hf hw hl
abbrev rm_X12_goes : Room := { frames := 0, cells := 0, slots := 0, locals := 0 }
abbrev QM_X12_goes (below : List Frame) (args : Array Value) (s : State) (D : va_G) (ad : Nat → Nat) (y : Nat → ClassId) (m_thrown : Int32) (m_taped : Int32) (m_size : Int32) (m_to : Int32) (m_from : Int32) (m_kind : Int32) (m_number : Int32) (m_fault : Int32) (m_place : Int32) (m_name : Int64) (m_happenings : Int32) (m_newHappenings : Int32) (m_heard : Int32) (m_outs : Int32) (m_bounds : Int32) (a_tape : Nat → Int32) (a_happened : Nat → Int64) (a_many : Nat → Int32) (a_sort : Nat → Int32) (a_one : Nat → Int32) (a_other : Nat → Int32) (a_low : Nat → Int32) (a_high : Nat → Int32) (a_begins : Nat → Int32) (a_out : Nat → Int32) (a_behind : Nat → Int32) (a_ahead : Nat → Int32) (a_most : Nat → Int32) (a_left : Nat → Int32) (a_quarrel : Nat → Int32) (a_early : Nat → Int32) (a_earlyLast : Nat → Int32) (res : Int32 × (Nat → Int32)) : State → Prop := MQ below (va_Qi (fun x (_ : Unit) => x = res.1) (fun _ t => va_P D vwCl (wls ad (eR ad y m_thrown m_taped m_size m_to m_from m_kind m_number m_fault m_place m_name m_happenings m_newHappenings m_heard m_outs m_bounds a_tape a_happened a_many a_sort a_one a_other a_low a_high a_begins a_out a_behind a_ahead a_most a_left res.2 a_quarrel a_early a_earlyLast)) t.heap) (Aw ad 19 s.heap.size)) args s 0 0 (Aw ad 19 s.heap.size)
set_option maxHeartbeats 4000000 in
set_option maxRecDepth 100000 in
theorem kb_X12_goes_b37 {p : Program} {l : Launch} {e : Env} {s : State} {m : MethodId} {args : Array Value} {below : List Frame} {meth : Method} {c : Code} {D : va_G} {ad : Nat → Nat} {y : Nat → ClassId} (C0 : CXT wsX12_goes cX12_goes RX12 6 (some .boolean) D (tyL y) (STR ad) p s m args meth c) {m_thrown : Int32} {m_taped : Int32} {m_size : Int32} {m_to : Int32} {m_from : Int32} {m_kind : Int32} {m_number : Int32} {m_fault : Int32} {m_place : Int32} {m_name : Int64} {m_happenings : Int32} {m_newHappenings : Int32} {m_heard : Int32} {m_outs : Int32} {m_bounds : Int32} {a_tape : Nat → Int32} {a_happened : Nat → Int64} {a_many : Nat → Int32} {a_sort : Nat → Int32} {a_one : Nat → Int32} {a_other : Nat → Int32} {a_low : Nat → Int32} {a_high : Nat → Int32} {a_begins : Nat → Int32} {a_out : Nat → Int32} {a_behind : Nat → Int32} {a_ahead : Nat → Int32} {a_most : Nat → Int32} {a_left : Nat → Int32} {a_far : Nat → Int32} {a_quarrel : Nat → Int32} {a_early : Nat → Int32} {a_earlyLast : Nat → Int32} {u1 : Int32} {u2 : Int32} {u3 : Int32} {w0 : Int32} {w1 : Int32}   {res : Int32 × (Nat → Int32)} {o : (Int32 × (Nat → Int32)) ⊕ (Int32 × (Nat → Int32))} (hf : f_X12_goes_b37 m_happenings m_bounds a_behind a_ahead a_most a_far u1 u2 u3 w0 w1 = some o) {H : Heap} {locs : List Loc} {ls : Array Slot} (hw : Wo D ad (Aw ad 19 s.heap.size) (eR ad y m_thrown m_taped m_size m_to m_from m_kind m_number m_fault m_place m_name m_happenings m_newHappenings m_heard m_outs m_bounds a_tape a_happened a_many a_sort a_one a_other a_low a_high a_begins a_out a_behind a_ahead a_most a_left a_far a_quarrel a_early a_earlyLast) s.heap H locs) (hl : lv_has ls 6 [(0, .ref (ad 0)), (1, .int u1), (2, .int u2), (3, .int u3)]) (hcont : ∀ s2, o = .inl s2 → ∀ (H : Heap) (locs : List Loc) (ls : Array Slot), Wo D ad (Aw ad 19 s.heap.size) (eR ad y m_thrown m_taped m_size m_to m_from m_kind m_number m_fault m_place m_name m_happenings m_newHappenings m_heard m_outs m_bounds a_tape a_happened a_many a_sort a_one a_other a_low a_high a_begins a_out a_behind a_ahead a_most a_left s2.2 a_quarrel a_early a_earlyLast) s.heap H locs → lv_has ls 6 [(0, .ref (ad 0)), (1, .int u1), (2, .int u2), (3, .int s2.1)] → W p l e rm_X12_goes s m args below meth c H locs 0 0 (QM_X12_goes below args s D ad y (m_thrown) (m_taped) (m_size) (m_to) (m_from) (m_kind) (m_number) (m_fault) (m_place) (m_name) (m_happenings) (m_newHappenings) (m_heard) (m_outs) (m_bounds) (a_tape) (a_happened) (a_many) (a_sort) (a_one) (a_other) (a_low) (a_high) (a_begins) (a_out) (a_behind) (a_ahead) (a_most) (a_left) (a_quarrel) (a_early) (a_earlyLast) res) (F0 m 11 ls [])) (hexit : ∀ t, o = .inr t → ∀ (H : Heap) (locs : List Loc) (ls : Array Slot), Wo D ad (Aw ad 19 s.heap.size) (eR ad y m_thrown m_taped m_size m_to m_from m_kind m_number m_fault m_place m_name m_happenings m_newHappenings m_heard m_outs m_bounds a_tape a_happened a_many a_sort a_one a_other a_low a_high a_begins a_out a_behind a_ahead a_most a_left t.2 a_quarrel a_early a_earlyLast) s.heap H locs → lv_has ls 6 [(0, .ref (ad 0)), (1, .int u1), (2, .int u2), (3, .int t.1)] → W p l e rm_X12_goes s m args below meth c H locs 0 0 (QM_X12_goes below args s D ad y (m_thrown) (m_taped) (m_size) (m_to) (m_from) (m_kind) (m_number) (m_fault) (m_place) (m_name) (m_happenings) (m_newHappenings) (m_heard) (m_outs) (m_bounds) (a_tape) (a_happened) (a_many) (a_sort) (a_one) (a_other) (a_low) (a_high) (a_begins) (a_out) (a_behind) (a_ahead) (a_most) (a_left) (a_quarrel) (a_early) (a_earlyLast) res) (F0 m 44 ls [])) : W p l e rm_X12_goes s m args below meth c H locs 0 0 (QM_X12_goes below args s D ad y (m_thrown) (m_taped) (m_size) (m_to) (m_from) (m_kind) (m_number) (m_fault) (m_place) (m_name) (m_happenings) (m_newHappenings) (m_heard) (m_outs) (m_bounds) (a_tape) (a_happened) (a_many) (a_sort) (a_one) (a_other) (a_low) (a_high) (a_begins) (a_out) (a_behind) (a_ahead) (a_most) (a_left) (a_quarrel) (a_early) (a_earlyLast) res) (F0 m 37 ls [.int w0, .int w1, .ref (ad 15)]) := by
  obtain ⟨hx, hb, hr, hml, hown, hts, hlocks, hK, hst⟩ := id C0
  unfold f_X12_goes_b37 at hf
  obtain ⟨g16, hf⟩ := gIn_some hf
  refine g_iast hx hb hK hw 15 1 eR_c15 rfl g16 dX12_goes_37 (fun H locs hw => ?_)
  have hw : Wo D ad (Aw ad 19 s.heap.size) (eR ad y m_thrown m_taped m_size m_to m_from m_kind m_number m_fault m_place m_name m_happenings m_newHappenings m_heard m_outs m_bounds a_tape a_happened a_many a_sort a_one a_other a_low a_high a_begins a_out a_behind a_ahead a_most a_left (upd a_far (Int32.toNatClampNeg w1) w0) a_quarrel a_early a_earlyLast) s.heap H locs := hw
  refine lv_iinc (v := u3 + 1) (lv' := [(3, .int (u3 + 1)), (0, .ref (ad 0)), (1, .int u1), (2, .int u2)]) hx hb dX12_goes_38 hl (k := 3) rfl rfl (by decide) rfl (fun ls hl => ?_)
  refine lv_goto (tgt := 11) hx hb dX12_goes_41 (by decide) ?_
  exact hcont _ (so hf).symm _ _ _ hw (lv_sub hl [1, 2, 3, 0] rfl)
set_option maxHeartbeats 4000000 in
set_option maxRecDepth 100000 in
theorem kw_X12_goes_11 {p : Program} {l : Launch} {e : Env} {s : State} {m : MethodId} {args : Array Value} {below : List Frame} {meth : Method} {c : Code} {D : va_G} {ad : Nat → Nat} {y : Nat → ClassId} (C0 : CXT wsX12_goes cX12_goes RX12 6 (some .boolean) D (tyL y) (STR ad) p s m args meth c) {m_thrown : Int32} {m_taped : Int32} {m_size : Int32} {m_to : Int32} {m_from : Int32} {m_kind : Int32} {m_number : Int32} {m_fault : Int32} {m_place : Int32} {m_name : Int64} {m_happenings : Int32} {m_newHappenings : Int32} {m_heard : Int32} {m_outs : Int32} {m_bounds : Int32} {a_tape : Nat → Int32} {a_happened : Nat → Int64} {a_many : Nat → Int32} {a_sort : Nat → Int32} {a_one : Nat → Int32} {a_other : Nat → Int32} {a_low : Nat → Int32} {a_high : Nat → Int32} {a_begins : Nat → Int32} {a_out : Nat → Int32} {a_behind : Nat → Int32} {a_ahead : Nat → Int32} {a_most : Nat → Int32} {a_left : Nat → Int32} {a_quarrel : Nat → Int32} {a_early : Nat → Int32} {a_earlyLast : Nat → Int32} {u1 : Int32} {u2 : Int32} {res : Int32 × (Nat → Int32)} {sg : Int32 × (Nat → Int32)} {o : (Int32 × (Nat → Int32)) ⊕ (Int32 × (Nat → Int32))} (hf : f_X12_goes_l11 m_happenings m_bounds a_behind a_ahead a_most u1 u2 sg = some o) {H : Heap} {locs : List Loc} {ls : Array Slot} (hw : Wo D ad (Aw ad 19 s.heap.size) (eR ad y m_thrown m_taped m_size m_to m_from m_kind m_number m_fault m_place m_name m_happenings m_newHappenings m_heard m_outs m_bounds a_tape a_happened a_many a_sort a_one a_other a_low a_high a_begins a_out a_behind a_ahead a_most a_left sg.2 a_quarrel a_early a_earlyLast) s.heap H locs) (hl : lv_has ls 6 [(0, .ref (ad 0)), (1, .int u1), (2, .int u2), (3, .int sg.1)]) (hcont : ∀ s2, o = .inl s2 → ∀ (H : Heap) (locs : List Loc) (ls : Array Slot), Wo D ad (Aw ad 19 s.heap.size) (eR ad y m_thrown m_taped m_size m_to m_from m_kind m_number m_fault m_place m_name m_happenings m_newHappenings m_heard m_outs m_bounds a_tape a_happened a_many a_sort a_one a_other a_low a_high a_begins a_out a_behind a_ahead a_most a_left s2.2 a_quarrel a_early a_earlyLast) s.heap H locs → lv_has ls 6 [(0, .ref (ad 0)), (1, .int u1), (2, .int u2), (3, .int s2.1)] → W p l e rm_X12_goes s m args below meth c H locs 0 0 (QM_X12_goes below args s D ad y (m_thrown) (m_taped) (m_size) (m_to) (m_from) (m_kind) (m_number) (m_fault) (m_place) (m_name) (m_happenings) (m_newHappenings) (m_heard) (m_outs) (m_bounds) (a_tape) (a_happened) (a_many) (a_sort) (a_one) (a_other) (a_low) (a_high) (a_begins) (a_out) (a_behind) (a_ahead) (a_most) (a_left) (a_quarrel) (a_early) (a_earlyLast) res) (F0 m 11 ls [])) (hexit : ∀ t, o = .inr t → ∀ (H : Heap) (locs : List Loc) (ls : Array Slot), Wo D ad (Aw ad 19 s.heap.size) (eR ad y m_thrown m_taped m_size m_to m_from m_kind m_number m_fault m_place m_name m_happenings m_newHappenings m_heard m_outs m_bounds a_tape a_happened a_many a_sort a_one a_other a_low a_high a_begins a_out a_behind a_ahead a_most a_left t.2 a_quarrel a_early a_earlyLast) s.heap H locs → lv_has ls 6 [(0, .ref (ad 0)), (1, .int u1), (2, .int u2), (3, .int t.1)] → W p l e rm_X12_goes s m args below meth c H locs 0 0 (QM_X12_goes below args s D ad y (m_thrown) (m_taped) (m_size) (m_to) (m_from) (m_kind) (m_number) (m_fault) (m_place) (m_name) (m_happenings) (m_newHappenings) (m_heard) (m_outs) (m_bounds) (a_tape) (a_happened) (a_many) (a_sort) (a_one) (a_other) (a_low) (a_high) (a_begins) (a_out) (a_behind) (a_ahead) (a_most) (a_left) (a_quarrel) (a_early) (a_earlyLast) res) (F0 m 44 ls [])) : W p l e rm_X12_goes s m args below meth c H locs 0 0 (QM_X12_goes below args s D ad y (m_thrown) (m_taped) (m_size) (m_to) (m_from) (m_kind) (m_number) (m_fault) (m_place) (m_name) (m_happenings) (m_newHappenings) (m_heard) (m_outs) (m_bounds) (a_tape) (a_happened) (a_many) (a_sort) (a_one) (a_other) (a_low) (a_high) (a_begins) (a_out) (a_behind) (a_ahead) (a_most) (a_left) (a_quarrel) (a_early) (a_earlyLast) res) (F0 m 11 ls []) := by
  obtain ⟨hx, hb, hr, hml, hown, hts, hlocks, hK, hst⟩ := id C0
  have i_X12 : ∀ w ∈ u_ws RX12 TX12 33, w ∈ wsX12_goes := by decide +kernel
  have L_58 := hts (.fieldLink RX12 58 "CaseOrderModel" "far" "[I") (by decide +kernel)
  have C_217 := hts (.constant RX12 217 100000000) (by decide +kernel)
  unfold f_X12_goes_l11 at hf
  refine lv_iload_n hx hb dX12_goes_11 rfl (lv_at hl 3 rfl) ?_
  refine lv_iload_n hx hb dX12_goes_12 rfl (lv_at hl 2 rfl) ?_
  refine lv_icmp_ge (tgt := 44) hx hb dX12_goes_13 (by decide) (fun c14 => ?_) (fun c14 => ?_)
  · have hf := it_p c14 hf
    exact hexit _ (so hf).symm _ _ _ hw (lv_sub hl [0, 1, 2, 3] rfl)
  · have hf := it_n c14 hf
    refine lv_aload_n hx hb dX12_goes_16 rfl (lv_at hl 0 rfl) ?_
    refine g_get hx hb hts i_X12 hown hK hw 0 eR_c0 rfl 29 (by decide) L_58 (fun _ h => h) rfl dX12_goes_17 ?_
    refine lv_iload_n hx hb dX12_goes_20 rfl (lv_at hl 3 rfl) ?_
    refine lv_iload_n hx hb dX12_goes_21 rfl (lv_at hl 1 rfl) ?_
    refine lv_iconst (v := (-1)) hx hb dX12_goes_22 (by decide) ?_
    refine lv_icmp_eq (tgt := 31) hx hb dX12_goes_23 (by decide) (fun c15 => ?_) (fun c15 => ?_)
    · have hf := it_p c15 hf
      refine lv_iconst (v := 0) hx hb dX12_goes_31 (by decide) ?_
      refine lv_goto (tgt := 37) hx hb dX12_goes_32 (by decide) ?_
      exact kb_X12_goes_b37 C0 hf hw (lv_sub hl [0, 1, 2, 3] rfl) hcont hexit
    · have hf := it_n c15 hf
      refine lv_iload_n hx hb dX12_goes_26 rfl (lv_at hl 3 rfl) ?_
      refine lv_iload_n hx hb dX12_goes_27 rfl (lv_at hl 1 rfl) ?_
      refine lv_icmp_ne (tgt := 35) hx hb dX12_goes_28 (by decide) (fun c17 => ?_) (fun c17 => ?_)
      · have hf := it_n c17 hf
        refine lv_ldc hx hb hown C_217 dX12_goes_35 ?_
        exact kb_X12_goes_b37 C0 hf hw (lv_sub hl [0, 1, 2, 3] rfl) hcont hexit
      · have hf := it_p c17 hf
        refine lv_iconst (v := 0) hx hb dX12_goes_31 (by decide) ?_
        refine lv_goto (tgt := 37) hx hb dX12_goes_32 (by decide) ?_
        exact kb_X12_goes_b37 C0 hf hw (lv_sub hl [0, 1, 2, 3] rfl) hcont hexit
set_option maxHeartbeats 4000000 in
theorem kl_X12_goes_11 {p : Program} {l : Launch} {e : Env} {s : State} {m : MethodId} {args : Array Value} {below : List Frame} {meth : Method} {c : Code} {D : va_G} {ad : Nat → Nat} {y : Nat → ClassId} (C0 : CXT wsX12_goes cX12_goes RX12 6 (some .boolean) D (tyL y) (STR ad) p s m args meth c) {m_thrown : Int32} {m_taped : Int32} {m_size : Int32} {m_to : Int32} {m_from : Int32} {m_kind : Int32} {m_number : Int32} {m_fault : Int32} {m_place : Int32} {m_name : Int64} {m_happenings : Int32} {m_newHappenings : Int32} {m_heard : Int32} {m_outs : Int32} {m_bounds : Int32} {a_tape : Nat → Int32} {a_happened : Nat → Int64} {a_many : Nat → Int32} {a_sort : Nat → Int32} {a_one : Nat → Int32} {a_other : Nat → Int32} {a_low : Nat → Int32} {a_high : Nat → Int32} {a_begins : Nat → Int32} {a_out : Nat → Int32} {a_behind : Nat → Int32} {a_ahead : Nat → Int32} {a_most : Nat → Int32} {a_left : Nat → Int32} {a_quarrel : Nat → Int32} {a_early : Nat → Int32} {a_earlyLast : Nat → Int32} {u1 : Int32} {u2 : Int32} {res : Int32 × (Nat → Int32)} : ∀ (n : Nat) (sg : Int32 × (Nat → Int32)) (q : Int32 × (Nat → Int32)), lp (f_X12_goes_l11 m_happenings m_bounds a_behind a_ahead a_most u1 u2) n sg = some q → ∀ (H : Heap) (locs : List Loc) (ls : Array Slot), Wo D ad (Aw ad 19 s.heap.size) (eR ad y m_thrown m_taped m_size m_to m_from m_kind m_number m_fault m_place m_name m_happenings m_newHappenings m_heard m_outs m_bounds a_tape a_happened a_many a_sort a_one a_other a_low a_high a_begins a_out a_behind a_ahead a_most a_left sg.2 a_quarrel a_early a_earlyLast) s.heap H locs → lv_has ls 6 [(0, .ref (ad 0)), (1, .int u1), (2, .int u2), (3, .int sg.1)] → (∀ (H : Heap) (locs : List Loc) (ls : Array Slot), Wo D ad (Aw ad 19 s.heap.size) (eR ad y m_thrown m_taped m_size m_to m_from m_kind m_number m_fault m_place m_name m_happenings m_newHappenings m_heard m_outs m_bounds a_tape a_happened a_many a_sort a_one a_other a_low a_high a_begins a_out a_behind a_ahead a_most a_left q.2 a_quarrel a_early a_earlyLast) s.heap H locs → lv_has ls 6 [(0, .ref (ad 0)), (1, .int u1), (2, .int u2), (3, .int q.1)] → W p l e rm_X12_goes s m args below meth c H locs 0 0 (QM_X12_goes below args s D ad y (m_thrown) (m_taped) (m_size) (m_to) (m_from) (m_kind) (m_number) (m_fault) (m_place) (m_name) (m_happenings) (m_newHappenings) (m_heard) (m_outs) (m_bounds) (a_tape) (a_happened) (a_many) (a_sort) (a_one) (a_other) (a_low) (a_high) (a_begins) (a_out) (a_behind) (a_ahead) (a_most) (a_left) (a_quarrel) (a_early) (a_earlyLast) res) (F0 m 44 ls [])) → W p l e rm_X12_goes s m args below meth c H locs 0 0 (QM_X12_goes below args s D ad y (m_thrown) (m_taped) (m_size) (m_to) (m_from) (m_kind) (m_number) (m_fault) (m_place) (m_name) (m_happenings) (m_newHappenings) (m_heard) (m_outs) (m_bounds) (a_tape) (a_happened) (a_many) (a_sort) (a_one) (a_other) (a_low) (a_high) (a_begins) (a_out) (a_behind) (a_ahead) (a_most) (a_left) (a_quarrel) (a_early) (a_earlyLast) res) (F0 m 11 ls []) := by
  intro n
  induction n with
  | zero => intro sg q hf; exact absurd hf lp_zero
  | succ n ih =>
    intro sg q hf H locs ls hw hl hexit
    rcases lp_succ hf with ⟨sg2, h1, h2⟩ | h1
    · exact kw_X12_goes_11 C0 h1 hw hl (fun s2 e2 H locs ls hw hl => by cases e2; exact ih _ q h2 H locs ls hw hl hexit) (fun t e2 => by cases e2)
    · exact kw_X12_goes_11 C0 h1 hw hl (fun s2 e2 => by cases e2) (fun t e2 => by cases e2; exact hexit)
set_option maxHeartbeats 4000000 in
set_option maxRecDepth 100000 in
theorem kw_X12_goes_57 {p : Program} {l : Launch} {e : Env} {s : State} {m : MethodId} {args : Array Value} {below : List Frame} {meth : Method} {c : Code} {D : va_G} {ad : Nat → Nat} {y : Nat → ClassId} (C0 : CXT wsX12_goes cX12_goes RX12 6 (some .boolean) D (tyL y) (STR ad) p s m args meth c) {m_thrown : Int32} {m_taped : Int32} {m_size : Int32} {m_to : Int32} {m_from : Int32} {m_kind : Int32} {m_number : Int32} {m_fault : Int32} {m_place : Int32} {m_name : Int64} {m_happenings : Int32} {m_newHappenings : Int32} {m_heard : Int32} {m_outs : Int32} {m_bounds : Int32} {a_tape : Nat → Int32} {a_happened : Nat → Int64} {a_many : Nat → Int32} {a_sort : Nat → Int32} {a_one : Nat → Int32} {a_other : Nat → Int32} {a_low : Nat → Int32} {a_high : Nat → Int32} {a_begins : Nat → Int32} {a_out : Nat → Int32} {a_behind : Nat → Int32} {a_ahead : Nat → Int32} {a_most : Nat → Int32} {a_left : Nat → Int32} {a_quarrel : Nat → Int32} {a_early : Nat → Int32} {a_earlyLast : Nat → Int32} {u2 : Int32} {u3 : Int32} {res : Int32 × (Nat → Int32)} {sg : Int32 × Int32 × (Nat → Int32)} {o : (Int32 × Int32 × (Nat → Int32)) ⊕ (Int32 × Int32 × (Nat → Int32))} (hf : f_X12_goes_l57 m_happenings m_bounds a_behind a_ahead a_most u2 u3 sg = some o) {H : Heap} {locs : List Loc} {ls : Array Slot} (hw : Wo D ad (Aw ad 19 s.heap.size) (eR ad y m_thrown m_taped m_size m_to m_from m_kind m_number m_fault m_place m_name m_happenings m_newHappenings m_heard m_outs m_bounds a_tape a_happened a_many a_sort a_one a_other a_low a_high a_begins a_out a_behind a_ahead a_most a_left sg.2.2 a_quarrel a_early a_earlyLast) s.heap H locs) (hl : lv_has ls 6 [(0, .ref (ad 0)), (2, .int u2), (3, .int u3), (4, .int sg.1), (5, .int sg.2.1)]) (hcont : ∀ s2, o = .inl s2 → ∀ (H : Heap) (locs : List Loc) (ls : Array Slot), Wo D ad (Aw ad 19 s.heap.size) (eR ad y m_thrown m_taped m_size m_to m_from m_kind m_number m_fault m_place m_name m_happenings m_newHappenings m_heard m_outs m_bounds a_tape a_happened a_many a_sort a_one a_other a_low a_high a_begins a_out a_behind a_ahead a_most a_left s2.2.2 a_quarrel a_early a_earlyLast) s.heap H locs → lv_has ls 6 [(0, .ref (ad 0)), (2, .int u2), (3, .int u3), (4, .int s2.1), (5, .int s2.2.1)] → W p l e rm_X12_goes s m args below meth c H locs 0 0 (QM_X12_goes below args s D ad y (m_thrown) (m_taped) (m_size) (m_to) (m_from) (m_kind) (m_number) (m_fault) (m_place) (m_name) (m_happenings) (m_newHappenings) (m_heard) (m_outs) (m_bounds) (a_tape) (a_happened) (a_many) (a_sort) (a_one) (a_other) (a_low) (a_high) (a_begins) (a_out) (a_behind) (a_ahead) (a_most) (a_left) (a_quarrel) (a_early) (a_earlyLast) res) (F0 m 57 ls [])) (hexit : ∀ t, o = .inr t → ∀ (H : Heap) (locs : List Loc) (ls : Array Slot), Wo D ad (Aw ad 19 s.heap.size) (eR ad y m_thrown m_taped m_size m_to m_from m_kind m_number m_fault m_place m_name m_happenings m_newHappenings m_heard m_outs m_bounds a_tape a_happened a_many a_sort a_one a_other a_low a_high a_begins a_out a_behind a_ahead a_most a_left t.2.2 a_quarrel a_early a_earlyLast) s.heap H locs → lv_has ls 6 [(0, .ref (ad 0)), (2, .int u2), (3, .int u3), (4, .int t.1), (5, .int t.2.1)] → W p l e rm_X12_goes s m args below meth c H locs 0 0 (QM_X12_goes below args s D ad y (m_thrown) (m_taped) (m_size) (m_to) (m_from) (m_kind) (m_number) (m_fault) (m_place) (m_name) (m_happenings) (m_newHappenings) (m_heard) (m_outs) (m_bounds) (a_tape) (a_happened) (a_many) (a_sort) (a_one) (a_other) (a_low) (a_high) (a_begins) (a_out) (a_behind) (a_ahead) (a_most) (a_left) (a_quarrel) (a_early) (a_earlyLast) res) (F0 m 162 ls [])) : W p l e rm_X12_goes s m args below meth c H locs 0 0 (QM_X12_goes below args s D ad y (m_thrown) (m_taped) (m_size) (m_to) (m_from) (m_kind) (m_number) (m_fault) (m_place) (m_name) (m_happenings) (m_newHappenings) (m_heard) (m_outs) (m_bounds) (a_tape) (a_happened) (a_many) (a_sort) (a_one) (a_other) (a_low) (a_high) (a_begins) (a_out) (a_behind) (a_ahead) (a_most) (a_left) (a_quarrel) (a_early) (a_earlyLast) res) (F0 m 57 ls []) := by
  obtain ⟨hx, hb, hr, hml, hown, hts, hlocks, hK, hst⟩ := id C0
  have i_X12 : ∀ w ∈ u_ws RX12 TX12 33, w ∈ wsX12_goes := by decide +kernel
  have L_203 := hts (.fieldLink RX12 203 "CaseOrderModel" "bounds" "I") (by decide +kernel)
  have L_58 := hts (.fieldLink RX12 58 "CaseOrderModel" "far" "[I") (by decide +kernel)
  have L_48 := hts (.fieldLink RX12 48 "CaseOrderModel" "ahead" "[I") (by decide +kernel)
  have C_217 := hts (.constant RX12 217 100000000) (by decide +kernel)
  have L_51 := hts (.fieldLink RX12 51 "CaseOrderModel" "most" "[I") (by decide +kernel)
  have L_45 := hts (.fieldLink RX12 45 "CaseOrderModel" "behind" "[I") (by decide +kernel)
  unfold f_X12_goes_l57 at hf
  refine lv_iload hx hb dX12_goes_57 (lv_at hl 4 rfl) ?_
  refine lv_aload_n hx hb dX12_goes_59 rfl (lv_at hl 0 rfl) ?_
  refine g_get hx hb hts i_X12 hown hK hw 0 eR_c0 rfl 27 (by decide) L_203 (fun _ h => h) rfl dX12_goes_60 ?_
  refine lv_icmp_ge (tgt := 162) hx hb dX12_goes_63 (by decide) (fun c20 => ?_) (fun c20 => ?_)
  · have hf := it_p c20 hf
    exact hexit _ (so hf).symm _ _ _ hw (lv_sub hl [0, 1, 2, 3, 4] rfl)
  · have hf := it_n c20 hf
    refine lv_aload_n hx hb dX12_goes_66 rfl (lv_at hl 0 rfl) ?_
    refine g_get hx hb hts i_X12 hown hK hw 0 eR_c0 rfl 29 (by decide) L_58 (fun _ h => h) rfl dX12_goes_67 ?_
    refine lv_aload_n hx hb dX12_goes_70 rfl (lv_at hl 0 rfl) ?_
    refine g_get hx hb hts i_X12 hown hK hw 0 eR_c0 rfl 25 (by decide) L_48 (fun _ h => h) rfl dX12_goes_71 ?_
    refine lv_iload hx hb dX12_goes_74 (lv_at hl 4 rfl) ?_
    obtain ⟨g21, hf⟩ := gIn_some hf
    refine g_iald hx hb hK hw 12 1 eR_c12 rfl g21 dX12_goes_76 ?_
    obtain ⟨g22, hf⟩ := gIn_some hf
    refine g_iald hx hb hK hw 15 1 eR_c15 rfl g22 dX12_goes_77 ?_
    refine lv_ldc hx hb hown C_217 dX12_goes_78 ?_
    refine lv_icmp_eq (tgt := 156) hx hb dX12_goes_80 (by decide) (fun c23 => ?_) (fun c23 => ?_)
    · have hf := it_p c23 hf
      refine lv_iinc (v := sg.2.1 + 1) (lv' := [(5, .int (sg.2.1 + 1)), (0, .ref (ad 0)), (2, .int u2), (3, .int u3), (4, .int sg.1)]) hx hb dX12_goes_156 hl (k := 4) rfl rfl (by decide) rfl (fun ls hl => ?_)
      refine lv_goto (tgt := 57) hx hb dX12_goes_159 (by decide) ?_
      exact hcont _ (so hf).symm _ _ _ hw (lv_sub hl [1, 2, 3, 4, 0] rfl)
    · have hf := it_n c23 hf
      refine lv_aload_n hx hb dX12_goes_83 rfl (lv_at hl 0 rfl) ?_
      refine g_get hx hb hts i_X12 hown hK hw 0 eR_c0 rfl 29 (by decide) L_58 (fun _ h => h) rfl dX12_goes_84 ?_
      refine lv_aload_n hx hb dX12_goes_87 rfl (lv_at hl 0 rfl) ?_
      refine g_get hx hb hts i_X12 hown hK hw 0 eR_c0 rfl 25 (by decide) L_48 (fun _ h => h) rfl dX12_goes_88 ?_
      refine lv_iload hx hb dX12_goes_91 (lv_at hl 4 rfl) ?_
      obtain ⟨g24, hf⟩ := gIn_some hf
      refine g_iald hx hb hK hw 12 1 eR_c12 rfl g24 dX12_goes_93 ?_
      obtain ⟨g25, hf⟩ := gIn_some hf
      refine g_iald hx hb hK hw 15 1 eR_c15 rfl g25 dX12_goes_94 ?_
      refine lv_aload_n hx hb dX12_goes_95 rfl (lv_at hl 0 rfl) ?_
      refine g_get hx hb hts i_X12 hown hK hw 0 eR_c0 rfl 26 (by decide) L_51 (fun _ h => h) rfl dX12_goes_96 ?_
      refine lv_iload hx hb dX12_goes_99 (lv_at hl 4 rfl) ?_
      obtain ⟨g26, hf⟩ := gIn_some hf
      refine g_iald hx hb hK hw 13 1 eR_c13 rfl g26 dX12_goes_101 ?_
      refine lv_iadd hx hb dX12_goes_102 ?_
      refine lv_aload_n hx hb dX12_goes_103 rfl (lv_at hl 0 rfl) ?_
      refine g_get hx hb hts i_X12 hown hK hw 0 eR_c0 rfl 29 (by decide) L_58 (fun _ h => h) rfl dX12_goes_104 ?_
      refine lv_aload_n hx hb dX12_goes_107 rfl (lv_at hl 0 rfl) ?_
      refine g_get hx hb hts i_X12 hown hK hw 0 eR_c0 rfl 24 (by decide) L_45 (fun _ h => h) rfl dX12_goes_108 ?_
      refine lv_iload hx hb dX12_goes_111 (lv_at hl 4 rfl) ?_
      obtain ⟨g27, hf⟩ := gIn_some hf
      refine g_iald hx hb hK hw 11 1 eR_c11 rfl g27 dX12_goes_113 ?_
      obtain ⟨g28, hf⟩ := gIn_some hf
      refine g_iald hx hb hK hw 15 1 eR_c15 rfl g28 dX12_goes_114 ?_
      refine lv_icmp_lt (tgt := 121) hx hb dX12_goes_115 (by decide) (fun c29 => ?_) (fun c29 => ?_)
      · have hf := it_p c29 hf
        refine lv_aload_n hx hb dX12_goes_121 rfl (lv_at hl 0 rfl) ?_
        refine g_get hx hb hts i_X12 hown hK hw 0 eR_c0 rfl 29 (by decide) L_58 (fun _ h => h) rfl dX12_goes_122 ?_
        refine lv_aload_n hx hb dX12_goes_125 rfl (lv_at hl 0 rfl) ?_
        refine g_get hx hb hts i_X12 hown hK hw 0 eR_c0 rfl 24 (by decide) L_45 (fun _ h => h) rfl dX12_goes_126 ?_
        refine lv_iload hx hb dX12_goes_129 (lv_at hl 4 rfl) ?_
        obtain ⟨g30, hf⟩ := gIn_some hf
        refine g_iald hx hb hK hw 11 1 eR_c11 rfl g30 dX12_goes_131 ?_
        refine lv_aload_n hx hb dX12_goes_132 rfl (lv_at hl 0 rfl) ?_
        refine g_get hx hb hts i_X12 hown hK hw 0 eR_c0 rfl 29 (by decide) L_58 (fun _ h => h) rfl dX12_goes_133 ?_
        refine lv_aload_n hx hb dX12_goes_136 rfl (lv_at hl 0 rfl) ?_
        refine g_get hx hb hts i_X12 hown hK hw 0 eR_c0 rfl 25 (by decide) L_48 (fun _ h => h) rfl dX12_goes_137 ?_
        refine lv_iload hx hb dX12_goes_140 (lv_at hl 4 rfl) ?_
        obtain ⟨g31, hf⟩ := gIn_some hf
        refine g_iald hx hb hK hw 12 1 eR_c12 rfl g31 dX12_goes_142 ?_
        obtain ⟨g32, hf⟩ := gIn_some hf
        refine g_iald hx hb hK hw 15 1 eR_c15 rfl g32 dX12_goes_143 ?_
        refine lv_aload_n hx hb dX12_goes_144 rfl (lv_at hl 0 rfl) ?_
        refine g_get hx hb hts i_X12 hown hK hw 0 eR_c0 rfl 26 (by decide) L_51 (fun _ h => h) rfl dX12_goes_145 ?_
        refine lv_iload hx hb dX12_goes_148 (lv_at hl 4 rfl) ?_
        obtain ⟨g33, hf⟩ := gIn_some hf
        refine g_iald hx hb hK hw 13 1 eR_c13 rfl g33 dX12_goes_150 ?_
        refine lv_iadd hx hb dX12_goes_151 ?_
        obtain ⟨g34, hf⟩ := gIn_some hf
        refine g_iast hx hb hK hw 15 1 eR_c15 rfl g34 dX12_goes_152 (fun H locs hw => ?_)
        have hw : Wo D ad (Aw ad 19 s.heap.size) (eR ad y m_thrown m_taped m_size m_to m_from m_kind m_number m_fault m_place m_name m_happenings m_newHappenings m_heard m_outs m_bounds a_tape a_happened a_many a_sort a_one a_other a_low a_high a_begins a_out a_behind a_ahead a_most a_left (upd sg.2.2 (Int32.toNatClampNeg (a_behind (Int32.toNatClampNeg sg.2.1))) ((sg.2.2 (Int32.toNatClampNeg (a_ahead (Int32.toNatClampNeg sg.2.1)))) + (a_most (Int32.toNatClampNeg sg.2.1)))) a_quarrel a_early a_earlyLast) s.heap H locs := hw
        refine lv_iconst (v := 1) hx hb dX12_goes_153 (by decide) ?_
        refine lv_istore (lv' := [(4, .int 1), (0, .ref (ad 0)), (2, .int u2), (3, .int u3), (5, .int sg.2.1)]) hx hb dX12_goes_154 hl (by decide) rfl (fun ls hl => ?_)
        refine lv_iinc (v := sg.2.1 + 1) (lv' := [(5, .int (sg.2.1 + 1)), (4, .int 1), (0, .ref (ad 0)), (2, .int u2), (3, .int u3)]) hx hb dX12_goes_156 hl (k := 4) rfl rfl (by decide) rfl (fun ls hl => ?_)
        refine lv_goto (tgt := 57) hx hb dX12_goes_159 (by decide) ?_
        exact hcont _ (so hf).symm _ _ _ hw (lv_sub hl [2, 3, 4, 1, 0] rfl)
      · have hf := it_n c29 hf
        refine lv_goto (tgt := 156) hx hb dX12_goes_118 (by decide) ?_
        refine lv_iinc (v := sg.2.1 + 1) (lv' := [(5, .int (sg.2.1 + 1)), (0, .ref (ad 0)), (2, .int u2), (3, .int u3), (4, .int sg.1)]) hx hb dX12_goes_156 hl (k := 4) rfl rfl (by decide) rfl (fun ls hl => ?_)
        refine lv_goto (tgt := 57) hx hb dX12_goes_159 (by decide) ?_
        exact hcont _ (so hf).symm _ _ _ hw (lv_sub hl [1, 2, 3, 4, 0] rfl)
set_option maxHeartbeats 4000000 in
theorem kl_X12_goes_57 {p : Program} {l : Launch} {e : Env} {s : State} {m : MethodId} {args : Array Value} {below : List Frame} {meth : Method} {c : Code} {D : va_G} {ad : Nat → Nat} {y : Nat → ClassId} (C0 : CXT wsX12_goes cX12_goes RX12 6 (some .boolean) D (tyL y) (STR ad) p s m args meth c) {m_thrown : Int32} {m_taped : Int32} {m_size : Int32} {m_to : Int32} {m_from : Int32} {m_kind : Int32} {m_number : Int32} {m_fault : Int32} {m_place : Int32} {m_name : Int64} {m_happenings : Int32} {m_newHappenings : Int32} {m_heard : Int32} {m_outs : Int32} {m_bounds : Int32} {a_tape : Nat → Int32} {a_happened : Nat → Int64} {a_many : Nat → Int32} {a_sort : Nat → Int32} {a_one : Nat → Int32} {a_other : Nat → Int32} {a_low : Nat → Int32} {a_high : Nat → Int32} {a_begins : Nat → Int32} {a_out : Nat → Int32} {a_behind : Nat → Int32} {a_ahead : Nat → Int32} {a_most : Nat → Int32} {a_left : Nat → Int32} {a_quarrel : Nat → Int32} {a_early : Nat → Int32} {a_earlyLast : Nat → Int32} {u2 : Int32} {u3 : Int32} {res : Int32 × (Nat → Int32)} : ∀ (n : Nat) (sg : Int32 × Int32 × (Nat → Int32)) (q : Int32 × Int32 × (Nat → Int32)), lp (f_X12_goes_l57 m_happenings m_bounds a_behind a_ahead a_most u2 u3) n sg = some q → ∀ (H : Heap) (locs : List Loc) (ls : Array Slot), Wo D ad (Aw ad 19 s.heap.size) (eR ad y m_thrown m_taped m_size m_to m_from m_kind m_number m_fault m_place m_name m_happenings m_newHappenings m_heard m_outs m_bounds a_tape a_happened a_many a_sort a_one a_other a_low a_high a_begins a_out a_behind a_ahead a_most a_left sg.2.2 a_quarrel a_early a_earlyLast) s.heap H locs → lv_has ls 6 [(0, .ref (ad 0)), (2, .int u2), (3, .int u3), (4, .int sg.1), (5, .int sg.2.1)] → (∀ (H : Heap) (locs : List Loc) (ls : Array Slot), Wo D ad (Aw ad 19 s.heap.size) (eR ad y m_thrown m_taped m_size m_to m_from m_kind m_number m_fault m_place m_name m_happenings m_newHappenings m_heard m_outs m_bounds a_tape a_happened a_many a_sort a_one a_other a_low a_high a_begins a_out a_behind a_ahead a_most a_left q.2.2 a_quarrel a_early a_earlyLast) s.heap H locs → lv_has ls 6 [(0, .ref (ad 0)), (2, .int u2), (3, .int u3), (4, .int q.1), (5, .int q.2.1)] → W p l e rm_X12_goes s m args below meth c H locs 0 0 (QM_X12_goes below args s D ad y (m_thrown) (m_taped) (m_size) (m_to) (m_from) (m_kind) (m_number) (m_fault) (m_place) (m_name) (m_happenings) (m_newHappenings) (m_heard) (m_outs) (m_bounds) (a_tape) (a_happened) (a_many) (a_sort) (a_one) (a_other) (a_low) (a_high) (a_begins) (a_out) (a_behind) (a_ahead) (a_most) (a_left) (a_quarrel) (a_early) (a_earlyLast) res) (F0 m 162 ls [])) → W p l e rm_X12_goes s m args below meth c H locs 0 0 (QM_X12_goes below args s D ad y (m_thrown) (m_taped) (m_size) (m_to) (m_from) (m_kind) (m_number) (m_fault) (m_place) (m_name) (m_happenings) (m_newHappenings) (m_heard) (m_outs) (m_bounds) (a_tape) (a_happened) (a_many) (a_sort) (a_one) (a_other) (a_low) (a_high) (a_begins) (a_out) (a_behind) (a_ahead) (a_most) (a_left) (a_quarrel) (a_early) (a_earlyLast) res) (F0 m 57 ls []) := by
  intro n
  induction n with
  | zero => intro sg q hf; exact absurd hf lp_zero
  | succ n ih =>
    intro sg q hf H locs ls hw hl hexit
    rcases lp_succ hf with ⟨sg2, h1, h2⟩ | h1
    · exact kw_X12_goes_57 C0 h1 hw hl (fun s2 e2 H locs ls hw hl => by cases e2; exact ih _ q h2 H locs ls hw hl hexit) (fun t e2 => by cases e2)
    · exact kw_X12_goes_57 C0 h1 hw hl (fun s2 e2 => by cases e2) (fun t e2 => by cases e2; exact hexit)
set_option maxHeartbeats 4000000 in
set_option maxRecDepth 100000 in
theorem kw_X12_goes_46 {p : Program} {l : Launch} {e : Env} {s : State} {m : MethodId} {args : Array Value} {below : List Frame} {meth : Method} {c : Code} {D : va_G} {ad : Nat → Nat} {y : Nat → ClassId} (C0 : CXT wsX12_goes cX12_goes RX12 6 (some .boolean) D (tyL y) (STR ad) p s m args meth c) {m_thrown : Int32} {m_taped : Int32} {m_size : Int32} {m_to : Int32} {m_from : Int32} {m_kind : Int32} {m_number : Int32} {m_fault : Int32} {m_place : Int32} {m_name : Int64} {m_happenings : Int32} {m_newHappenings : Int32} {m_heard : Int32} {m_outs : Int32} {m_bounds : Int32} {a_tape : Nat → Int32} {a_happened : Nat → Int64} {a_many : Nat → Int32} {a_sort : Nat → Int32} {a_one : Nat → Int32} {a_other : Nat → Int32} {a_low : Nat → Int32} {a_high : Nat → Int32} {a_begins : Nat → Int32} {a_out : Nat → Int32} {a_behind : Nat → Int32} {a_ahead : Nat → Int32} {a_most : Nat → Int32} {a_left : Nat → Int32} {a_quarrel : Nat → Int32} {a_early : Nat → Int32} {a_earlyLast : Nat → Int32} {u2 : Int32} {res : Int32 × (Nat → Int32)} {sg : Int32 × (Nat → Int32)} {o : (Int32 × (Nat → Int32)) ⊕ ((Int32 × (Nat → Int32)) ⊕ (Int32 × (Nat → Int32)))} (hf : f_X12_goes_l46 m_happenings m_bounds a_behind a_ahead a_most u2 sg = some o) {H : Heap} {locs : List Loc} {ls : Array Slot} (hw : Wo D ad (Aw ad 19 s.heap.size) (eR ad y m_thrown m_taped m_size m_to m_from m_kind m_number m_fault m_place m_name m_happenings m_newHappenings m_heard m_outs m_bounds a_tape a_happened a_many a_sort a_one a_other a_low a_high a_begins a_out a_behind a_ahead a_most a_left sg.2 a_quarrel a_early a_earlyLast) s.heap H locs) (hl : lv_has ls 6 [(0, .ref (ad 0)), (2, .int u2), (3, .int sg.1)]) (hcont : ∀ s2, o = .inl s2 → ∀ (H : Heap) (locs : List Loc) (ls : Array Slot), Wo D ad (Aw ad 19 s.heap.size) (eR ad y m_thrown m_taped m_size m_to m_from m_kind m_number m_fault m_place m_name m_happenings m_newHappenings m_heard m_outs m_bounds a_tape a_happened a_many a_sort a_one a_other a_low a_high a_begins a_out a_behind a_ahead a_most a_left s2.2 a_quarrel a_early a_earlyLast) s.heap H locs → lv_has ls 6 [(0, .ref (ad 0)), (2, .int u2), (3, .int s2.1)] → W p l e rm_X12_goes s m args below meth c H locs 0 0 (QM_X12_goes below args s D ad y (m_thrown) (m_taped) (m_size) (m_to) (m_from) (m_kind) (m_number) (m_fault) (m_place) (m_name) (m_happenings) (m_newHappenings) (m_heard) (m_outs) (m_bounds) (a_tape) (a_happened) (a_many) (a_sort) (a_one) (a_other) (a_low) (a_high) (a_begins) (a_out) (a_behind) (a_ahead) (a_most) (a_left) (a_quarrel) (a_early) (a_earlyLast) res) (F0 m 46 ls [])) (hexit : ∀ t, o = .inr (.inl t) → ∀ (H : Heap) (locs : List Loc) (ls : Array Slot), Wo D ad (Aw ad 19 s.heap.size) (eR ad y m_thrown m_taped m_size m_to m_from m_kind m_number m_fault m_place m_name m_happenings m_newHappenings m_heard m_outs m_bounds a_tape a_happened a_many a_sort a_one a_other a_low a_high a_begins a_out a_behind a_ahead a_most a_left t.2 a_quarrel a_early a_earlyLast) s.heap H locs → lv_has ls 6 [(0, .ref (ad 0)), (2, .int u2), (3, .int t.1)] → W p l e rm_X12_goes s m args below meth c H locs 0 0 (QM_X12_goes below args s D ad y (m_thrown) (m_taped) (m_size) (m_to) (m_from) (m_kind) (m_number) (m_fault) (m_place) (m_name) (m_happenings) (m_newHappenings) (m_heard) (m_outs) (m_bounds) (a_tape) (a_happened) (a_many) (a_sort) (a_one) (a_other) (a_low) (a_high) (a_begins) (a_out) (a_behind) (a_ahead) (a_most) (a_left) (a_quarrel) (a_early) (a_earlyLast) res) (F0 m 175 ls [])) (hret : ∀ r, o = .inr (.inr r) → r = res) : W p l e rm_X12_goes s m args below meth c H locs 0 0 (QM_X12_goes below args s D ad y (m_thrown) (m_taped) (m_size) (m_to) (m_from) (m_kind) (m_number) (m_fault) (m_place) (m_name) (m_happenings) (m_newHappenings) (m_heard) (m_outs) (m_bounds) (a_tape) (a_happened) (a_many) (a_sort) (a_one) (a_other) (a_low) (a_high) (a_begins) (a_out) (a_behind) (a_ahead) (a_most) (a_left) (a_quarrel) (a_early) (a_earlyLast) res) (F0 m 46 ls []) := by
  obtain ⟨hx, hb, hr, hml, hown, hts, hlocks, hK, hst⟩ := id C0
  unfold f_X12_goes_l46 at hf
  refine lv_iload_n hx hb dX12_goes_46 rfl (lv_at hl 2 rfl) ?_
  refine lv_iload_n hx hb dX12_goes_47 rfl (lv_at hl 1 rfl) ?_
  refine lv_icmp_gt (tgt := 175) hx hb dX12_goes_48 (by decide) (fun c19 => ?_) (fun c19 => ?_)
  · have hf := it_p c19 hf
    exact hexit _ (so hf).symm _ _ _ hw (lv_sub hl [0, 1, 2] rfl)
  · have hf := it_n c19 hf
    refine lv_iconst (v := 0) hx hb dX12_goes_51 (by decide) ?_
    refine lv_istore (lv' := [(4, .int 0), (0, .ref (ad 0)), (2, .int u2), (3, .int sg.1)]) hx hb dX12_goes_52 hl (by decide) rfl (fun ls hl => ?_)
    refine lv_iconst (v := 0) hx hb dX12_goes_54 (by decide) ?_
    refine lv_istore (lv' := [(5, .int 0), (4, .int 0), (0, .ref (ad 0)), (2, .int u2), (3, .int sg.1)]) hx hb dX12_goes_55 hl (by decide) rfl (fun ls hl => ?_)
    obtain ⟨q35, hq35, hf⟩ := bd hf
    refine kl_X12_goes_57 C0 gFU _ _ hq35 _ _ _ hw (lv_sub hl [2, 3, 4, 1, 0] rfl) (fun H locs ls hw hl => ?_)
    have hw : Wo D ad (Aw ad 19 s.heap.size) (eR ad y m_thrown m_taped m_size m_to m_from m_kind m_number m_fault m_place m_name m_happenings m_newHappenings m_heard m_outs m_bounds a_tape a_happened a_many a_sort a_one a_other a_low a_high a_begins a_out a_behind a_ahead a_most a_left q35.2.2 a_quarrel a_early a_earlyLast) s.heap H locs := hw
    have hl : lv_has ls 6 [(0, .ref (ad 0)), (2, .int u2), (3, .int sg.1), (4, .int q35.1), (5, .int q35.2.1)] := hl
    refine lv_iload hx hb dX12_goes_162 (lv_at hl 3 rfl) ?_
    refine lv_if_ne (tgt := 169) hx hb dX12_goes_164 (by decide) (fun c36 => ?_) (fun c36 => ?_)
    · have hf := it_n c36 hf
      refine lv_iinc (v := sg.1 + 1) (lv' := [(3, .int (sg.1 + 1)), (0, .ref (ad 0)), (2, .int u2), (4, .int q35.1), (5, .int q35.2.1)]) hx hb dX12_goes_169 hl (k := 2) rfl rfl (by decide) rfl (fun ls hl => ?_)
      refine lv_goto (tgt := 46) hx hb dX12_goes_172 (by decide) ?_
      exact hcont _ (so hf).symm _ _ _ hw (lv_sub hl [1, 2, 0] rfl)
    · have hf := it_p c36 hf
      refine lv_iconst (v := 1) hx hb dX12_goes_167 (by decide) ?_
      obtain rfl := hret _ (so hf).symm
      exact W.zret (v := 1) hx hb hr rfl (fun t ht _ => g_end hw t ht) hw.2.2.2.2 dX12_goes_168
set_option maxHeartbeats 4000000 in
theorem kl_X12_goes_46 {p : Program} {l : Launch} {e : Env} {s : State} {m : MethodId} {args : Array Value} {below : List Frame} {meth : Method} {c : Code} {D : va_G} {ad : Nat → Nat} {y : Nat → ClassId} (C0 : CXT wsX12_goes cX12_goes RX12 6 (some .boolean) D (tyL y) (STR ad) p s m args meth c) {m_thrown : Int32} {m_taped : Int32} {m_size : Int32} {m_to : Int32} {m_from : Int32} {m_kind : Int32} {m_number : Int32} {m_fault : Int32} {m_place : Int32} {m_name : Int64} {m_happenings : Int32} {m_newHappenings : Int32} {m_heard : Int32} {m_outs : Int32} {m_bounds : Int32} {a_tape : Nat → Int32} {a_happened : Nat → Int64} {a_many : Nat → Int32} {a_sort : Nat → Int32} {a_one : Nat → Int32} {a_other : Nat → Int32} {a_low : Nat → Int32} {a_high : Nat → Int32} {a_begins : Nat → Int32} {a_out : Nat → Int32} {a_behind : Nat → Int32} {a_ahead : Nat → Int32} {a_most : Nat → Int32} {a_left : Nat → Int32} {a_quarrel : Nat → Int32} {a_early : Nat → Int32} {a_earlyLast : Nat → Int32} {u2 : Int32} {res : Int32 × (Nat → Int32)} : ∀ (n : Nat) (sg : Int32 × (Nat → Int32)) (q : (Int32 × (Nat → Int32)) ⊕ (Int32 × (Nat → Int32))), lp (f_X12_goes_l46 m_happenings m_bounds a_behind a_ahead a_most u2) n sg = some q → ∀ (H : Heap) (locs : List Loc) (ls : Array Slot), Wo D ad (Aw ad 19 s.heap.size) (eR ad y m_thrown m_taped m_size m_to m_from m_kind m_number m_fault m_place m_name m_happenings m_newHappenings m_heard m_outs m_bounds a_tape a_happened a_many a_sort a_one a_other a_low a_high a_begins a_out a_behind a_ahead a_most a_left sg.2 a_quarrel a_early a_earlyLast) s.heap H locs → lv_has ls 6 [(0, .ref (ad 0)), (2, .int u2), (3, .int sg.1)] → (∀ t, q = .inl t → ∀ (H : Heap) (locs : List Loc) (ls : Array Slot), Wo D ad (Aw ad 19 s.heap.size) (eR ad y m_thrown m_taped m_size m_to m_from m_kind m_number m_fault m_place m_name m_happenings m_newHappenings m_heard m_outs m_bounds a_tape a_happened a_many a_sort a_one a_other a_low a_high a_begins a_out a_behind a_ahead a_most a_left t.2 a_quarrel a_early a_earlyLast) s.heap H locs → lv_has ls 6 [(0, .ref (ad 0)), (2, .int u2), (3, .int t.1)] → W p l e rm_X12_goes s m args below meth c H locs 0 0 (QM_X12_goes below args s D ad y (m_thrown) (m_taped) (m_size) (m_to) (m_from) (m_kind) (m_number) (m_fault) (m_place) (m_name) (m_happenings) (m_newHappenings) (m_heard) (m_outs) (m_bounds) (a_tape) (a_happened) (a_many) (a_sort) (a_one) (a_other) (a_low) (a_high) (a_begins) (a_out) (a_behind) (a_ahead) (a_most) (a_left) (a_quarrel) (a_early) (a_earlyLast) res) (F0 m 175 ls [])) → (∀ r, q = .inr r → r = res) → W p l e rm_X12_goes s m args below meth c H locs 0 0 (QM_X12_goes below args s D ad y (m_thrown) (m_taped) (m_size) (m_to) (m_from) (m_kind) (m_number) (m_fault) (m_place) (m_name) (m_happenings) (m_newHappenings) (m_heard) (m_outs) (m_bounds) (a_tape) (a_happened) (a_many) (a_sort) (a_one) (a_other) (a_low) (a_high) (a_begins) (a_out) (a_behind) (a_ahead) (a_most) (a_left) (a_quarrel) (a_early) (a_earlyLast) res) (F0 m 46 ls []) := by
  intro n
  induction n with
  | zero => intro sg q hf; exact absurd hf lp_zero
  | succ n ih =>
    intro sg q hf H locs ls hw hl hexit hret
    rcases lp_succ hf with ⟨sg2, h1, h2⟩ | h1
    · exact kw_X12_goes_46 C0 h1 hw hl (fun s2 e2 H locs ls hw hl => by cases e2; exact ih _ q h2 H locs ls hw hl hexit hret) (fun t e2 => by cases e2) (fun r e2 => by cases e2)
    · exact kw_X12_goes_46 C0 h1 hw hl (fun s2 e2 => by cases e2) (fun t e2 => by cases e2; exact hexit t rfl) (fun r e2 => by cases e2; exact hret r rfl)
set_option maxHeartbeats 4000000 in
set_option maxRecDepth 100000 in
theorem ke_X12_goes {p : Program} {l : Launch} {e : Env} {s : State} {m : MethodId} {args : Array Value} {below : List Frame} {meth : Method} {c : Code} {D : va_G} {ad : Nat → Nat} {y : Nat → ClassId} (C0 : CXT wsX12_goes cX12_goes RX12 6 (some .boolean) D (tyL y) (STR ad) p s m args meth c) {m_thrown : Int32} {m_taped : Int32} {m_size : Int32} {m_to : Int32} {m_from : Int32} {m_kind : Int32} {m_number : Int32} {m_fault : Int32} {m_place : Int32} {m_name : Int64} {m_happenings : Int32} {m_newHappenings : Int32} {m_heard : Int32} {m_outs : Int32} {m_bounds : Int32} {a_tape : Nat → Int32} {a_happened : Nat → Int64} {a_many : Nat → Int32} {a_sort : Nat → Int32} {a_one : Nat → Int32} {a_other : Nat → Int32} {a_low : Nat → Int32} {a_high : Nat → Int32} {a_begins : Nat → Int32} {a_out : Nat → Int32} {a_behind : Nat → Int32} {a_ahead : Nat → Int32} {a_most : Nat → Int32} {a_left : Nat → Int32} {a_far : Nat → Int32} {a_quarrel : Nat → Int32} {a_early : Nat → Int32} {a_earlyLast : Nat → Int32} {p1 : Int32} {res : Int32 × (Nat → Int32)} (hf : f_X12_goes m_happenings m_bounds a_behind a_ahead a_most a_far p1 = some res) {H : Heap} {locs : List Loc} {ls : Array Slot} (hw : Wo D ad (Aw ad 19 s.heap.size) (eR ad y m_thrown m_taped m_size m_to m_from m_kind m_number m_fault m_place m_name m_happenings m_newHappenings m_heard m_outs m_bounds a_tape a_happened a_many a_sort a_one a_other a_low a_high a_begins a_out a_behind a_ahead a_most a_left a_far a_quarrel a_early a_earlyLast) s.heap H locs) (hl : lv_has ls 6 [(0, .ref (ad 0)), (1, .int p1)]) : W p l e rm_X12_goes s m args below meth c H locs 0 0 (QM_X12_goes below args s D ad y (m_thrown) (m_taped) (m_size) (m_to) (m_from) (m_kind) (m_number) (m_fault) (m_place) (m_name) (m_happenings) (m_newHappenings) (m_heard) (m_outs) (m_bounds) (a_tape) (a_happened) (a_many) (a_sort) (a_one) (a_other) (a_low) (a_high) (a_begins) (a_out) (a_behind) (a_ahead) (a_most) (a_left) (a_quarrel) (a_early) (a_earlyLast) res) (F0 m 0 ls []) := by
  obtain ⟨hx, hb, hr, hml, hown, hts, hlocks, hK, hst⟩ := id C0
  have i_X12 : ∀ w ∈ u_ws RX12 TX12 33, w ∈ wsX12_goes := by decide +kernel
  have L_181 := hts (.fieldLink RX12 181 "CaseOrderModel" "happenings" "I") (by decide +kernel)
  unfold f_X12_goes at hf
  refine lv_iconst (v := 1) hx hb dX12_goes_0 (by decide) ?_
  refine lv_iconst (v := 2) hx hb dX12_goes_1 (by decide) ?_
  refine lv_aload_n hx hb dX12_goes_2 rfl (lv_at hl 0 rfl) ?_
  refine g_get hx hb hts i_X12 hown hK hw 0 eR_c0 rfl 12 (by decide) L_181 (fun _ h => h) rfl dX12_goes_3 ?_
  refine lv_imul hx hb dX12_goes_6 ?_
  refine lv_iadd hx hb dX12_goes_7 ?_
  refine lv_istore_n (lv' := [(2, .int (1 + (2 * m_happenings))), (0, .ref (ad 0)), (1, .int p1)]) hx hb dX12_goes_8 rfl hl (by decide) rfl (fun ls hl => ?_)
  refine lv_iconst (v := 0) hx hb dX12_goes_9 (by decide) ?_
  refine lv_istore_n (lv' := [(3, .int 0), (2, .int (1 + (2 * m_happenings))), (0, .ref (ad 0)), (1, .int p1)]) hx hb dX12_goes_10 rfl hl (by decide) rfl (fun ls hl => ?_)
  obtain ⟨q18, hq18, hf⟩ := bd hf
  refine kl_X12_goes_11 C0 gFU _ _ hq18 _ _ _ hw (lv_sub hl [2, 3, 1, 0] rfl) (fun H locs ls hw hl => ?_)
  have hw : Wo D ad (Aw ad 19 s.heap.size) (eR ad y m_thrown m_taped m_size m_to m_from m_kind m_number m_fault m_place m_name m_happenings m_newHappenings m_heard m_outs m_bounds a_tape a_happened a_many a_sort a_one a_other a_low a_high a_begins a_out a_behind a_ahead a_most a_left q18.2 a_quarrel a_early a_earlyLast) s.heap H locs := hw
  have hl : lv_has ls 6 [(0, .ref (ad 0)), (1, .int p1), (2, .int (1 + (2 * m_happenings))), (3, .int q18.1)] := hl
  refine lv_iconst (v := 0) hx hb dX12_goes_44 (by decide) ?_
  refine lv_istore_n (lv' := [(3, .int 0), (0, .ref (ad 0)), (1, .int p1), (2, .int (1 + (2 * m_happenings)))]) hx hb dX12_goes_45 rfl hl (by decide) rfl (fun ls hl => ?_)
  obtain ⟨q37, hq37, hf⟩ := bd hf
  refine kl_X12_goes_46 C0 gFU _ _ hq37 _ _ _ hw (lv_sub hl [1, 3, 0] rfl) (fun t38 et38 H locs ls hw hl => ?_) (fun r39 er39 => ?_)
  · rw [et38] at hf
    have hf := el_l hf
    have hw : Wo D ad (Aw ad 19 s.heap.size) (eR ad y m_thrown m_taped m_size m_to m_from m_kind m_number m_fault m_place m_name m_happenings m_newHappenings m_heard m_outs m_bounds a_tape a_happened a_many a_sort a_one a_other a_low a_high a_begins a_out a_behind a_ahead a_most a_left t38.2 a_quarrel a_early a_earlyLast) s.heap H locs := hw
    have hl : lv_has ls 6 [(0, .ref (ad 0)), (2, .int (1 + (2 * m_happenings))), (3, .int t38.1)] := hl
    refine lv_iconst (v := 0) hx hb dX12_goes_175 (by decide) ?_
    obtain rfl := so hf
    exact W.zret (v := 0) hx hb hr rfl (fun t ht _ => g_end hw t ht) hw.2.2.2.2 dX12_goes_176
  · rw [er39] at hf
    have hf := el_r hf
    exact so hf
set_option maxHeartbeats 4000000 in
theorem k_X12_goes {l : Launch} {D : va_G} {ad : Nat → Nat} {y : Nat → ClassId} {m_thrown : Int32} {m_taped : Int32} {m_size : Int32} {m_to : Int32} {m_from : Int32} {m_kind : Int32} {m_number : Int32} {m_fault : Int32} {m_place : Int32} {m_name : Int64} {m_happenings : Int32} {m_newHappenings : Int32} {m_heard : Int32} {m_outs : Int32} {m_bounds : Int32} {a_tape : Nat → Int32} {a_happened : Nat → Int64} {a_many : Nat → Int32} {a_sort : Nat → Int32} {a_one : Nat → Int32} {a_other : Nat → Int32} {a_low : Nat → Int32} {a_high : Nat → Int32} {a_begins : Nat → Int32} {a_out : Nat → Int32} {a_behind : Nat → Int32} {a_ahead : Nat → Int32} {a_most : Nat → Int32} {a_left : Nat → Int32} {a_far : Nat → Int32} {a_quarrel : Nat → Int32} {a_early : Nat → Int32} {a_earlyLast : Nat → Int32} {p1 : Int32} {res : Int32 × (Nat → Int32)} (hf : f_X12_goes m_happenings m_bounds a_behind a_ahead a_most a_far p1 = some res) : CTi l yX12_goes wsX12_goes rm_X12_goes D ad 19 (tyL y) (STR ad) (eR ad y m_thrown m_taped m_size m_to m_from m_kind m_number m_fault m_place m_name m_happenings m_newHappenings m_heard m_outs m_bounds a_tape a_happened a_many a_sort a_one a_other a_low a_high a_begins a_out a_behind a_ahead a_most a_left a_far a_quarrel a_early a_earlyLast) (eR ad y m_thrown m_taped m_size m_to m_from m_kind m_number m_fault m_place m_name m_happenings m_newHappenings m_heard m_outs m_bounds a_tape a_happened a_many a_sort a_one a_other a_low a_high a_begins a_out a_behind a_ahead a_most a_left res.2 a_quarrel a_early a_earlyLast) [.ref (ad 0), .int p1] res.1 := by
  intro sz
  refine Met.ofW (cc := cX12_goes) (maxL := 6) (ret := (some .boolean)) (by decide) rfl ?_
  intro p e s m args below meth c s₁ B hml hv
  obtain ⟨rfl, hsz, hP, hK, hD0, hst⟩ := hv
  subst hsz
  have C0 : CXT wsX12_goes cX12_goes RX12 6 (some .boolean) D (tyL y) (STR ad) p s m ([.ref (ad 0), .int p1] : List Value).toArray meth c := ⟨B.exec, B.bytes, B.returns, hml, findClass_of_methodNamed B.named, atoms_spec (ws := wsX12_goes) B.pre, B.notSynchronized, hK, hst⟩
  have hw := g_start (n := 19) rfl hP hD0
  have hl := lv_entry ([.ref (ad 0), .int p1]) (n := 6) (Nat.le_of_ble_eq_true rfl)
  rw [lg_entry_eq]
  generalize (lg_sl ([.ref (ad 0), .int p1]) ++ List.replicate (6 - (lg_sl ([.ref (ad 0), .int p1])).length) Slot.unset).toArray = ls at hl ⊢
  have hl : lv_has ls 6 [(0, .ref (ad 0)), (1, .int p1)] := hl
  exact ke_X12_goes C0 hf hw hl
