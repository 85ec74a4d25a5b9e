abbrev rm_X12_isKey : Room := { frames := 0, cells := 0, slots := 0, locals := 0 }
abbrev QM_X12_isKey (below : List Frame) (args : Array Value) (s : State) (D : va_G) (ad : Nat → Nat) (y : Nat → ClassId) (m_thrown : Int32) (m_taped : Int32) (m_size : Int32) (m_to : Int32) (m_from : Int32) (m_kind : Int32) (m_number : Int32) (m_fault : Int32) (m_place : Int32) (m_name : Int64) (m_happenings : Int32) (m_newHappenings : Int32) (m_heard : Int32) (m_outs : Int32) (m_bounds : Int32) (a_tape : Nat → Int32) (a_happened : Nat → Int64) (a_many : Nat → Int32) (a_sort : Nat → Int32) (a_one : Nat → Int32) (a_other : Nat → Int32) (a_low : Nat → Int32) (a_high : Nat → Int32) (a_begins : Nat → Int32) (a_out : Nat → Int32) (a_behind : Nat → Int32) (a_ahead : Nat → Int32) (a_most : Nat → Int32) (a_left : Nat → Int32) (a_far : Nat → Int32) (a_quarrel : Nat → Int32) (a_early : Nat → Int32) (a_earlyLast : Nat → Int32) (res : Int32) : State → Prop := MQ below (va_Qi (fun x (_ : Unit) => x = res) (fun _ t => va_P D vwCl (wls ad (eR ad y m_thrown m_taped m_size m_to m_from m_kind m_number m_fault m_place m_name m_happenings m_newHappenings m_heard m_outs m_bounds a_tape a_happened a_many a_sort a_one a_other a_low a_high a_begins a_out a_behind a_ahead a_most a_left a_far a_quarrel a_early a_earlyLast)) t.heap) (Aw ad 19 s.heap.size)) args s 0 0 (Aw ad 19 s.heap.size)
set_option maxHeartbeats 4000000 in
set_option maxRecDepth 100000 in
theorem ke_X12_isKey {p : Program} {l : Launch} {e : Env} {s : State} {m : MethodId} {args : Array Value} {below : List Frame} {meth : Method} {c : Code} {D : va_G} {ad : Nat → Nat} {y : Nat → ClassId} (C0 : CXT wsX12_isKey cX12_isKey RX12 3 (some .boolean) D (tyL y) (STR ad) p s m args meth c) {m_thrown : Int32} {m_taped : Int32} {m_size : Int32} {m_to : Int32} {m_from : Int32} {m_kind : Int32} {m_number : Int32} {m_fault : Int32} {m_place : Int32} {m_name : Int64} {m_happenings : Int32} {m_newHappenings : Int32} {m_heard : Int32} {m_outs : Int32} {m_bounds : Int32} {a_tape : Nat → Int32} {a_happened : Nat → Int64} {a_many : Nat → Int32} {a_sort : Nat → Int32} {a_one : Nat → Int32} {a_other : Nat → Int32} {a_low : Nat → Int32} {a_high : Nat → Int32} {a_begins : Nat → Int32} {a_out : Nat → Int32} {a_behind : Nat → Int32} {a_ahead : Nat → Int32} {a_most : Nat → Int32} {a_left : Nat → Int32} {a_far : Nat → Int32} {a_quarrel : Nat → Int32} {a_early : Nat → Int32} {a_earlyLast : Nat → Int32} {p1 : Int64} {res : Int32} (hf : f_X12_isKey m_kind m_name p1 = some res) {H : Heap} {locs : List Loc} {ls : Array Slot} (hw : Wo D ad (Aw ad 19 s.heap.size) (eR ad y m_thrown m_taped m_size m_to m_from m_kind m_number m_fault m_place m_name m_happenings m_newHappenings m_heard m_outs m_bounds a_tape a_happened a_many a_sort a_one a_other a_low a_high a_begins a_out a_behind a_ahead a_most a_left a_far a_quarrel a_early a_earlyLast) s.heap H locs) (hl : lv_has ls 3 [(0, .ref (ad 0)), (1, .long p1)]) : W p l e rm_X12_isKey s m args below meth c H locs 0 0 (QM_X12_isKey below args s D ad y (m_thrown) (m_taped) (m_size) (m_to) (m_from) (m_kind) (m_number) (m_fault) (m_place) (m_name) (m_happenings) (m_newHappenings) (m_heard) (m_outs) (m_bounds) (a_tape) (a_happened) (a_many) (a_sort) (a_one) (a_other) (a_low) (a_high) (a_begins) (a_out) (a_behind) (a_ahead) (a_most) (a_left) (a_far) (a_quarrel) (a_early) (a_earlyLast) res) (F0 m 0 ls []) := by
  obtain ⟨hx, hb, hr, hml, hown, hts, hlocks, hK, hst⟩ := id C0
  have i_X12 : ∀ w ∈ u_ws RX12 TX12 33, w ∈ wsX12_isKey := by decide +kernel
  have L_92 := hts (.fieldLink RX12 92 "CaseOrderModel" "kind" "I") (by decide +kernel)
  have L_105 := hts (.fieldLink RX12 105 "CaseOrderModel" "name" "J") (by decide +kernel)
  unfold f_X12_isKey at hf
  refine lv_aload_n hx hb dX12_isKey_0 rfl (lv_at hl 0 rfl) ?_
  refine g_get hx hb hts i_X12 hown hK hw 0 eR_c0 rfl 6 (by decide) L_92 (fun _ h => h) rfl dX12_isKey_1 ?_
  refine lv_iconst (v := 2) hx hb dX12_isKey_4 (by decide) ?_
  refine lv_icmp_ne (tgt := 21) hx hb dX12_isKey_5 (by decide) (fun c1 => ?_) (fun c1 => ?_)
  · have hf := it_n c1 hf
    refine lv_iconst (v := 0) hx hb dX12_isKey_21 (by decide) ?_
    obtain rfl := so hf
    exact W.zret (v := 0) hx hb hr rfl (fun t ht _ => g_end hw t ht) hw.2.2.2.2 dX12_isKey_22
  · have hf := it_p c1 hf
    refine lv_aload_n hx hb dX12_isKey_8 rfl (lv_at hl 0 rfl) ?_
    refine g_get hx hb hts i_X12 hown hK hw 0 eR_c0 rfl 10 (by decide) L_105 (fun _ h => h) rfl dX12_isKey_9 ?_
    refine lv_lload_n hx hb dX12_isKey_12 rfl (lv_at hl 1 rfl) ?_
    refine W.lcmp hx hb dX12_isKey_13 ?_
    refine lv_if_ne (tgt := 21) hx hb dX12_isKey_14 (by decide) (fun c2 => ?_) (fun c2 => ?_)
    · have hf := it_n c2 hf
      refine lv_iconst (v := 0) hx hb dX12_isKey_21 (by decide) ?_
      obtain rfl := so hf
      exact W.zret (v := 0) hx hb hr rfl (fun t ht _ => g_end hw t ht) hw.2.2.2.2 dX12_isKey_22
    · have hf := it_p c2 hf
      refine lv_iconst (v := 1) hx hb dX12_isKey_17 (by decide) ?_
      refine lv_goto (tgt := 22) hx hb dX12_isKey_18 (by decide) ?_
      obtain rfl := so hf
      exact W.zret (v := 1) hx hb hr rfl (fun t ht _ => g_end hw t ht) hw.2.2.2.2 dX12_isKey_22
set_option maxHeartbeats 4000000 in
theorem k_X12_isKey {l : Launch} {D : va_G} {ad : Nat → Nat} {y : Nat → ClassId} {m_thrown : Int32} {m_taped : Int32} {m_size : Int32} {m_to : Int32} {m_from : Int32} {m_kind : Int32} {m_number : Int32} {m_fault : Int32} {m_place : Int32} {m_name : Int64} {m_happenings : Int32} {m_newHappenings : Int32} {m_heard : Int32} {m_outs : Int32} {m_bounds : Int32} {a_tape : Nat → Int32} {a_happened : Nat → Int64} {a_many : Nat → Int32} {a_sort : Nat → Int32} {a_one : Nat → Int32} {a_other : Nat → Int32} {a_low : Nat → Int32} {a_high : Nat → Int32} {a_begins : Nat → Int32} {a_out : Nat → Int32} {a_behind : Nat → Int32} {a_ahead : Nat → Int32} {a_most : Nat → Int32} {a_left : Nat → Int32} {a_far : Nat → Int32} {a_quarrel : Nat → Int32} {a_early : Nat → Int32} {a_earlyLast : Nat → Int32} {p1 : Int64} {res : Int32} (hf : f_X12_isKey m_kind m_name p1 = some res) : CTi l yX12_isKey wsX12_isKey rm_X12_isKey D ad 19 (tyL y) (STR ad) (eR ad y m_thrown m_taped m_size m_to m_from m_kind m_number m_fault m_place m_name m_happenings m_newHappenings m_heard m_outs m_bounds a_tape a_happened a_many a_sort a_one a_other a_low a_high a_begins a_out a_behind a_ahead a_most a_left a_far a_quarrel a_early a_earlyLast) (eR ad y m_thrown m_taped m_size m_to m_from m_kind m_number m_fault m_place m_name m_happenings m_newHappenings m_heard m_outs m_bounds a_tape a_happened a_many a_sort a_one a_other a_low a_high a_begins a_out a_behind a_ahead a_most a_left a_far a_quarrel a_early a_earlyLast) [.ref (ad 0), .long p1] res := by
  intro sz
  refine Met.ofW (cc := cX12_isKey) (maxL := 3) (ret := (some .boolean)) (by decide) rfl ?_
  intro p e s m args below meth c s₁ B hml hv
  obtain ⟨rfl, hsz, hP, hK, hD0, hst⟩ := hv
  subst hsz
  have C0 : CXT wsX12_isKey cX12_isKey RX12 3 (some .boolean) D (tyL y) (STR ad) p s m ([.ref (ad 0), .long p1] : List Value).toArray meth c := ⟨B.exec, B.bytes, B.returns, hml, findClass_of_methodNamed B.named, atoms_spec (ws := wsX12_isKey) B.pre, B.notSynchronized, hK, hst⟩
  have hw := g_start (n := 19) rfl hP hD0
  have hl := lv_entry ([.ref (ad 0), .long p1]) (n := 3) (Nat.le_of_ble_eq_true rfl)
  rw [lg_entry_eq]
  generalize (lg_sl ([.ref (ad 0), .long p1]) ++ List.replicate (3 - (lg_sl ([.ref (ad 0), .long p1])).length) Slot.unset).toArray = ls at hl ⊢
  have hl : lv_has ls 3 [(0, .ref (ad 0)), (1, .long p1)] := hl
  exact ke_X12_isKey C0 hf hw hl
abbrev rm_X12_isFree : Room := { frames := 0, cells := 0, slots := 0, locals := 0 }
abbrev QM_X12_isFree (below : List Frame) (args : Array Value) (s : State) (D : va_G) (ad : Nat → Nat) (y : Nat → ClassId) (m_thrown : Int32) (m_taped : Int32) (m_size : Int32) (m_to : Int32) (m_from : Int32) (m_kind : Int32) (m_number : Int32) (m_fault : Int32) (m_place : Int32) (m_name : Int64) (m_happenings : Int32) (m_newHappenings : Int32) (m_heard : Int32) (m_outs : Int32) (m_bounds : Int32) (a_tape : Nat → Int32) (a_happened : Nat → Int64) (a_many : Nat → Int32) (a_sort : Nat → Int32) (a_one : Nat → Int32) (a_other : Nat → Int32) (a_low : Nat → Int32) (a_high : Nat → Int32) (a_begins : Nat → Int32) (a_out : Nat → Int32) (a_behind : Nat → Int32) (a_ahead : Nat → Int32) (a_most : Nat → Int32) (a_left : Nat → Int32) (a_far : Nat → Int32) (a_quarrel : Nat → Int32) (a_early : Nat → Int32) (a_earlyLast : Nat → Int32) (res : Int32) : State → Prop := MQ below (va_Qi (fun x (_ : Unit) => x = res) (fun _ t => va_P D vwCl (wls ad (eR ad y m_thrown m_taped m_size m_to m_from m_kind m_number m_fault m_place m_name m_happenings m_newHappenings m_heard m_outs m_bounds a_tape a_happened a_many a_sort a_one a_other a_low a_high a_begins a_out a_behind a_ahead a_most a_left a_far a_quarrel a_early a_earlyLast)) t.heap) (Aw ad 19 s.heap.size)) args s 0 0 (Aw ad 19 s.heap.size)
set_option maxHeartbeats 4000000 in
set_option maxRecDepth 100000 in
theorem ke_X12_isFree {p : Program} {l : Launch} {e : Env} {s : State} {m : MethodId} {args : Array Value} {below : List Frame} {meth : Method} {c : Code} {D : va_G} {ad : Nat → Nat} {y : Nat → ClassId} (C0 : CXT wsX12_isFree cX12_isFree RX12 1 (some .boolean) D (tyL y) (STR ad) p s m args meth c) {m_thrown : Int32} {m_taped : Int32} {m_size : Int32} {m_to : Int32} {m_from : Int32} {m_kind : Int32} {m_number : Int32} {m_fault : Int32} {m_place : Int32} {m_name : Int64} {m_happenings : Int32} {m_newHappenings : Int32} {m_heard : Int32} {m_outs : Int32} {m_bounds : Int32} {a_tape : Nat → Int32} {a_happened : Nat → Int64} {a_many : Nat → Int32} {a_sort : Nat → Int32} {a_one : Nat → Int32} {a_other : Nat → Int32} {a_low : Nat → Int32} {a_high : Nat → Int32} {a_begins : Nat → Int32} {a_out : Nat → Int32} {a_behind : Nat → Int32} {a_ahead : Nat → Int32} {a_most : Nat → Int32} {a_left : Nat → Int32} {a_far : Nat → Int32} {a_quarrel : Nat → Int32} {a_early : Nat → Int32} {a_earlyLast : Nat → Int32}  {res : Int32} (hf : f_X12_isFree m_kind m_name = some res) {H : Heap} {locs : List Loc} {ls : Array Slot} (hw : Wo D ad (Aw ad 19 s.heap.size) (eR ad y m_thrown m_taped m_size m_to m_from m_kind m_number m_fault m_place m_name m_happenings m_newHappenings m_heard m_outs m_bounds a_tape a_happened a_many a_sort a_one a_other a_low a_high a_begins a_out a_behind a_ahead a_most a_left a_far a_quarrel a_early a_earlyLast) s.heap H locs) (hl : lv_has ls 1 [(0, .ref (ad 0))]) : W p l e rm_X12_isFree s m args below meth c H locs 0 0 (QM_X12_isFree below args s D ad y (m_thrown) (m_taped) (m_size) (m_to) (m_from) (m_kind) (m_number) (m_fault) (m_place) (m_name) (m_happenings) (m_newHappenings) (m_heard) (m_outs) (m_bounds) (a_tape) (a_happened) (a_many) (a_sort) (a_one) (a_other) (a_low) (a_high) (a_begins) (a_out) (a_behind) (a_ahead) (a_most) (a_left) (a_far) (a_quarrel) (a_early) (a_earlyLast) res) (F0 m 0 ls []) := by
  obtain ⟨hx, hb, hr, hml, hown, hts, hlocks, hK, hst⟩ := id C0
  have i_X12 : ∀ w ∈ u_ws RX12 TX12 33, w ∈ wsX12_isFree := by decide +kernel
  have L_92 := hts (.fieldLink RX12 92 "CaseOrderModel" "kind" "I") (by decide +kernel)
  have L_105 := hts (.fieldLink RX12 105 "CaseOrderModel" "name" "J") (by decide +kernel)
  have L_120 := hts (.fieldLink RX12 120 "CaseOrderModel" "ON" "J") (by decide +kernel)
  have L_123 := hts (.fieldLink RX12 123 "CaseOrderModel" "FROM" "J") (by decide +kernel)
  have L_126 := hts (.fieldLink RX12 126 "CaseOrderModel" "TO" "J") (by decide +kernel)
  have L_129 := hts (.fieldLink RX12 129 "CaseOrderModel" "BY" "J") (by decide +kernel)
  have L_132 := hts (.fieldLink RX12 132 "CaseOrderModel" "SINCE" "J") (by decide +kernel)
  have L_135 := hts (.fieldLink RX12 135 "CaseOrderModel" "LASTS" "J") (by decide +kernel)
  have L_138 := hts (.fieldLink RX12 138 "CaseOrderModel" "BEFORE" "J") (by decide +kernel)
  have L_141 := hts (.fieldLink RX12 141 "CaseOrderModel" "WHILE" "J") (by decide +kernel)
  unfold f_X12_isFree at hf
  refine lv_aload_n hx hb dX12_isFree_0 rfl (lv_at hl 0 rfl) ?_
  refine g_get hx hb hts i_X12 hown hK hw 0 eR_c0 rfl 6 (by decide) L_92 (fun _ h => h) rfl dX12_isFree_1 ?_
  refine lv_iconst (v := 2) hx hb dX12_isFree_4 (by decide) ?_
  refine lv_icmp_ne (tgt := 100) hx hb dX12_isFree_5 (by decide) (fun c1 => ?_) (fun c1 => ?_)
  · have hf := it_n c1 hf
    refine lv_iconst (v := 0) hx hb dX12_isFree_100 (by decide) ?_
    obtain rfl := so hf
    exact W.zret (v := 0) hx hb hr rfl (fun t ht _ => g_end hw t ht) hw.2.2.2.2 dX12_isFree_101
  · have hf := it_p c1 hf
    refine lv_aload_n hx hb dX12_isFree_8 rfl (lv_at hl 0 rfl) ?_
    refine g_get hx hb hts i_X12 hown hK hw 0 eR_c0 rfl 10 (by decide) L_105 (fun _ h => h) rfl dX12_isFree_9 ?_
    refine va_gets hx hb (STR_get (n := "ON") (v := 419) (by decide) hst) hw.2.2 hown L_120 (fun _ h => h) dX12_isFree_12 ?_
    refine W.lcmp hx hb dX12_isFree_15 ?_
    refine lv_if_eq (tgt := 100) hx hb dX12_isFree_16 (by decide) (fun c2 => ?_) (fun c2 => ?_)
    · have hf := it_p c2 hf
      refine lv_iconst (v := 0) hx hb dX12_isFree_100 (by decide) ?_
      obtain rfl := so hf
      exact W.zret (v := 0) hx hb hr rfl (fun t ht _ => g_end hw t ht) hw.2.2.2.2 dX12_isFree_101
    · have hf := it_n c2 hf
      refine lv_aload_n hx hb dX12_isFree_19 rfl (lv_at hl 0 rfl) ?_
      refine g_get hx hb hts i_X12 hown hK hw 0 eR_c0 rfl 10 (by decide) L_105 (fun _ h => h) rfl dX12_isFree_20 ?_
      refine va_gets hx hb (STR_get (n := "FROM") (v := 131638) (by decide) hst) hw.2.2 hown L_123 (fun _ h => h) dX12_isFree_23 ?_
      refine W.lcmp hx hb dX12_isFree_26 ?_
      refine lv_if_eq (tgt := 100) hx hb dX12_isFree_27 (by decide) (fun c3 => ?_) (fun c3 => ?_)
      · have hf := it_p c3 hf
        refine lv_iconst (v := 0) hx hb dX12_isFree_100 (by decide) ?_
        obtain rfl := so hf
        exact W.zret (v := 0) hx hb hr rfl (fun t ht _ => g_end hw t ht) hw.2.2.2.2 dX12_isFree_101
      · have hf := it_n c3 hf
        refine lv_aload_n hx hb dX12_isFree_30 rfl (lv_at hl 0 rfl) ?_
        refine g_get hx hb hts i_X12 hown hK hw 0 eR_c0 rfl 10 (by decide) L_105 (fun _ h => h) rfl dX12_isFree_31 ?_
        refine va_gets hx hb (STR_get (n := "TO") (v := 555) (by decide) hst) hw.2.2 hown L_126 (fun _ h => h) dX12_isFree_34 ?_
        refine W.lcmp hx hb dX12_isFree_37 ?_
        refine lv_if_eq (tgt := 100) hx hb dX12_isFree_38 (by decide) (fun c4 => ?_) (fun c4 => ?_)
        · have hf := it_p c4 hf
          refine lv_iconst (v := 0) hx hb dX12_isFree_100 (by decide) ?_
          obtain rfl := so hf
          exact W.zret (v := 0) hx hb hr rfl (fun t ht _ => g_end hw t ht) hw.2.2.2.2 dX12_isFree_101
        · have hf := it_n c4 hf
          refine lv_aload_n hx hb dX12_isFree_41 rfl (lv_at hl 0 rfl) ?_
          refine g_get hx hb hts i_X12 hown hK hw 0 eR_c0 rfl 10 (by decide) L_105 (fun _ h => h) rfl dX12_isFree_42 ?_
          refine va_gets hx hb (STR_get (n := "BY") (v := 79) (by decide) hst) hw.2.2 hown L_129 (fun _ h => h) dX12_isFree_45 ?_
          refine W.lcmp hx hb dX12_isFree_48 ?_
          refine lv_if_eq (tgt := 100) hx hb dX12_isFree_49 (by decide) (fun c5 => ?_) (fun c5 => ?_)
          · have hf := it_p c5 hf
            refine lv_iconst (v := 0) hx hb dX12_isFree_100 (by decide) ?_
            obtain rfl := so hf
            exact W.zret (v := 0) hx hb hr rfl (fun t ht _ => g_end hw t ht) hw.2.2.2.2 dX12_isFree_101
          · have hf := it_n c5 hf
            refine lv_aload_n hx hb dX12_isFree_52 rfl (lv_at hl 0 rfl) ?_
            refine g_get hx hb hts i_X12 hown hK hw 0 eR_c0 rfl 10 (by decide) L_105 (fun _ h => h) rfl dX12_isFree_53 ?_
            refine va_gets hx hb (STR_get (n := "SINCE") (v := 10284818) (by decide) hst) hw.2.2 hown L_132 (fun _ h => h) dX12_isFree_56 ?_
            refine W.lcmp hx hb dX12_isFree_59 ?_
            refine lv_if_eq (tgt := 100) hx hb dX12_isFree_60 (by decide) (fun c6 => ?_) (fun c6 => ?_)
            · have hf := it_p c6 hf
              refine lv_iconst (v := 0) hx hb dX12_isFree_100 (by decide) ?_
              obtain rfl := so hf
              exact W.zret (v := 0) hx hb hr rfl (fun t ht _ => g_end hw t ht) hw.2.2.2.2 dX12_isFree_101
            · have hf := it_n c6 hf
              refine lv_aload_n hx hb dX12_isFree_63 rfl (lv_at hl 0 rfl) ?_
              refine g_get hx hb hts i_X12 hown hK hw 0 eR_c0 rfl 10 (by decide) L_105 (fun _ h => h) rfl dX12_isFree_64 ?_
              refine va_gets hx hb (STR_get (n := "LASTS") (v := 6411385) (by decide) hst) hw.2.2 hown L_135 (fun _ h => h) dX12_isFree_67 ?_
              refine W.lcmp hx hb dX12_isFree_70 ?_
              refine lv_if_eq (tgt := 100) hx hb dX12_isFree_71 (by decide) (fun c7 => ?_) (fun c7 => ?_)
              · have hf := it_p c7 hf
                refine lv_iconst (v := 0) hx hb dX12_isFree_100 (by decide) ?_
                obtain rfl := so hf
                exact W.zret (v := 0) hx hb hr rfl (fun t ht _ => g_end hw t ht) hw.2.2.2.2 dX12_isFree_101
              · have hf := it_n c7 hf
                refine lv_aload_n hx hb dX12_isFree_74 rfl (lv_at hl 0 rfl) ?_
                refine g_get hx hb hts i_X12 hown hK hw 0 eR_c0 rfl 10 (by decide) L_105 (fun _ h => h) rfl dX12_isFree_75 ?_
                refine va_gets hx hb (STR_get (n := "BEFORE") (v := 31484543) (by decide) hst) hw.2.2 hown L_138 (fun _ h => h) dX12_isFree_78 ?_
                refine W.lcmp hx hb dX12_isFree_81 ?_
                refine lv_if_eq (tgt := 100) hx hb dX12_isFree_82 (by decide) (fun c8 => ?_) (fun c8 => ?_)
                · have hf := it_p c8 hf
                  refine lv_iconst (v := 0) hx hb dX12_isFree_100 (by decide) ?_
                  obtain rfl := so hf
                  exact W.zret (v := 0) hx hb hr rfl (fun t ht _ => g_end hw t ht) hw.2.2.2.2 dX12_isFree_101
                · have hf := it_n c8 hf
                  refine lv_aload_n hx hb dX12_isFree_85 rfl (lv_at hl 0 rfl) ?_
                  refine g_get hx hb hts i_X12 hown hK hw 0 eR_c0 rfl 10 (by decide) L_105 (fun _ h => h) rfl dX12_isFree_86 ?_
                  refine va_gets hx hb (STR_get (n := "WHILE") (v := 12387497) (by decide) hst) hw.2.2 hown L_141 (fun _ h => h) dX12_isFree_89 ?_
                  refine W.lcmp hx hb dX12_isFree_92 ?_
                  refine lv_if_eq (tgt := 100) hx hb dX12_isFree_93 (by decide) (fun c9 => ?_) (fun c9 => ?_)
                  · have hf := it_p c9 hf
                    refine lv_iconst (v := 0) hx hb dX12_isFree_100 (by decide) ?_
                    obtain rfl := so hf
                    exact W.zret (v := 0) hx hb hr rfl (fun t ht _ => g_end hw t ht) hw.2.2.2.2 dX12_isFree_101
                  · have hf := it_n c9 hf
                    refine lv_iconst (v := 1) hx hb dX12_isFree_96 (by decide) ?_
                    refine lv_goto (tgt := 101) hx hb dX12_isFree_97 (by decide) ?_
                    obtain rfl := so hf
                    exact W.zret (v := 1) hx hb hr rfl (fun t ht _ => g_end hw t ht) hw.2.2.2.2 dX12_isFree_101
set_option maxHeartbeats 4000000 in
theorem k_X12_isFree {l : Launch} {D : va_G} {ad : Nat → Nat} {y : Nat → ClassId} {m_thrown : Int32} {m_taped : Int32} {m_size : Int32} {m_to : Int32} {m_from : Int32} {m_kind : Int32} {m_number : Int32} {m_fault : Int32} {m_place : Int32} {m_name : Int64} {m_happenings : Int32} {m_newHappenings : Int32} {m_heard : Int32} {m_outs : Int32} {m_bounds : Int32} {a_tape : Nat → Int32} {a_happened : Nat → Int64} {a_many : Nat → Int32} {a_sort : Nat → Int32} {a_one : Nat → Int32} {a_other : Nat → Int32} {a_low : Nat → Int32} {a_high : Nat → Int32} {a_begins : Nat → Int32} {a_out : Nat → Int32} {a_behind : Nat → Int32} {a_ahead : Nat → Int32} {a_most : Nat → Int32} {a_left : Nat → Int32} {a_far : Nat → Int32} {a_quarrel : Nat → Int32} {a_early : Nat → Int32} {a_earlyLast : Nat → Int32}  {res : Int32} (hf : f_X12_isFree m_kind m_name = some res) : CTi l yX12_isFree wsX12_isFree rm_X12_isFree D ad 19 (tyL y) (STR ad) (eR ad y m_thrown m_taped m_size m_to m_from m_kind m_number m_fault m_place m_name m_happenings m_newHappenings m_heard m_outs m_bounds a_tape a_happened a_many a_sort a_one a_other a_low a_high a_begins a_out a_behind a_ahead a_most a_left a_far a_quarrel a_early a_earlyLast) (eR ad y m_thrown m_taped m_size m_to m_from m_kind m_number m_fault m_place m_name m_happenings m_newHappenings m_heard m_outs m_bounds a_tape a_happened a_many a_sort a_one a_other a_low a_high a_begins a_out a_behind a_ahead a_most a_left a_far a_quarrel a_early a_earlyLast) [.ref (ad 0)] res := by
  intro sz
  refine Met.ofW (cc := cX12_isFree) (maxL := 1) (ret := (some .boolean)) (by decide) rfl ?_
  intro p e s m args below meth c s₁ B hml hv
  obtain ⟨rfl, hsz, hP, hK, hD0, hst⟩ := hv
  subst hsz
  have C0 : CXT wsX12_isFree cX12_isFree RX12 1 (some .boolean) D (tyL y) (STR ad) p s m ([.ref (ad 0)] : List Value).toArray meth c := ⟨B.exec, B.bytes, B.returns, hml, findClass_of_methodNamed B.named, atoms_spec (ws := wsX12_isFree) B.pre, B.notSynchronized, hK, hst⟩
  have hw := g_start (n := 19) rfl hP hD0
  have hl := lv_entry ([.ref (ad 0)]) (n := 1) (Nat.le_of_ble_eq_true rfl)
  rw [lg_entry_eq]
  generalize (lg_sl ([.ref (ad 0)]) ++ List.replicate (1 - (lg_sl ([.ref (ad 0)])).length) Slot.unset).toArray = ls at hl ⊢
  have hl : lv_has ls 1 [(0, .ref (ad 0))] := hl
  exact ke_X12_isFree C0 hf hw hl
abbrev rm_X12_bad : Room := { frames := 0, cells := 0, slots := 0, locals := 0 }
abbrev QM_X12_bad (below : List Frame) (args : Array Value) (s : State) (D : va_G) (ad : Nat → Nat) (y : Nat → ClassId) (m_thrown : Int32) (m_taped : Int32) (m_size : Int32) (m_to : Int32) (m_from : Int32) (m_kind : Int32) (m_number : Int32) (m_name : Int64) (m_happenings : Int32) (m_newHappenings : Int32) (m_heard : Int32) (m_outs : Int32) (m_bounds : Int32) (a_tape : Nat → Int32) (a_happened : Nat → Int64) (a_many : Nat → Int32) (a_sort : Nat → Int32) (a_one : Nat → Int32) (a_other : Nat → Int32) (a_low : Nat → Int32) (a_high : Nat → Int32) (a_begins : Nat → Int32) (a_out : Nat → Int32) (a_behind : Nat → Int32) (a_ahead : Nat → Int32) (a_most : Nat → Int32) (a_left : Nat → Int32) (a_far : Nat → Int32) (a_quarrel : Nat → Int32) (a_early : Nat → Int32) (a_earlyLast : Nat → Int32) (res : Int32 × Int32 × Int32) : State → Prop := MQ below (va_Qi (fun x (_ : Unit) => x = res.1) (fun _ t => va_P D vwCl (wls ad (eR ad y m_thrown m_taped m_size m_to m_from m_kind m_number res.2.1 res.2.2 m_name m_happenings m_newHappenings m_heard m_outs m_bounds a_tape a_happened a_many a_sort a_one a_other a_low a_high a_begins a_out a_behind a_ahead a_most a_left a_far a_quarrel a_early a_earlyLast)) t.heap) (Aw ad 19 s.heap.size)) args s 0 0 (Aw ad 19 s.heap.size)
set_option maxHeartbeats 4000000 in
set_option maxRecDepth 100000 in
theorem kb_X12_bad_b14 {p : Program} {l : Launch} {e : Env} {s : State} {m : MethodId} {args : Array Value} {below : List Frame} {meth : Method} {c : Code} {D : va_G} {ad : Nat → Nat} {y : Nat → ClassId} (C0 : CXT wsX12_bad cX12_bad RX12 2 (some .boolean) D (tyL y) (STR ad) p s m args meth c) {m_thrown : Int32} {m_taped : Int32} {m_size : Int32} {m_to : Int32} {m_from : Int32} {m_kind : Int32} {m_number : Int32} {m_fault : Int32} {m_place : Int32} {m_name : Int64} {m_happenings : Int32} {m_newHappenings : Int32} {m_heard : Int32} {m_outs : Int32} {m_bounds : Int32} {a_tape : Nat → Int32} {a_happened : Nat → Int64} {a_many : Nat → Int32} {a_sort : Nat → Int32} {a_one : Nat → Int32} {a_other : Nat → Int32} {a_low : Nat → Int32} {a_high : Nat → Int32} {a_begins : Nat → Int32} {a_out : Nat → Int32} {a_behind : Nat → Int32} {a_ahead : Nat → Int32} {a_most : Nat → Int32} {a_left : Nat → Int32} {a_far : Nat → Int32} {a_quarrel : Nat → Int32} {a_early : Nat → Int32} {a_earlyLast : Nat → Int32}  {w0 : Int32}  {res : Int32 × Int32 × Int32} (hf : f_X12_bad_b14 m_from m_kind m_fault m_place w0 = some res) {H : Heap} {locs : List Loc} {ls : Array Slot} (hw : Wo D ad (Aw ad 19 s.heap.size) (eR ad y m_thrown m_taped m_size m_to m_from m_kind m_number m_fault m_place m_name m_happenings m_newHappenings m_heard m_outs m_bounds a_tape a_happened a_many a_sort a_one a_other a_low a_high a_begins a_out a_behind a_ahead a_most a_left a_far a_quarrel a_early a_earlyLast) s.heap H locs) (hl : lv_has ls 2 [(0, .ref (ad 0))]) : W p l e rm_X12_bad s m args below meth c H locs 0 0 (QM_X12_bad below args s D ad y (m_thrown) (m_taped) (m_size) (m_to) (m_from) (m_kind) (m_number) (m_name) (m_happenings) (m_newHappenings) (m_heard) (m_outs) (m_bounds) (a_tape) (a_happened) (a_many) (a_sort) (a_one) (a_other) (a_low) (a_high) (a_begins) (a_out) (a_behind) (a_ahead) (a_most) (a_left) (a_far) (a_quarrel) (a_early) (a_earlyLast) res) (F0 m 14 ls [.int w0, .ref (ad 0)]) := by
  obtain ⟨hx, hb, hr, hml, hown, hts, hlocks, hK, hst⟩ := id C0
  have i_X12 : ∀ w ∈ u_ws RX12 TX12 33, w ∈ wsX12_bad := by decide +kernel
  have L_144 := hts (.fieldLink RX12 144 "CaseOrderModel" "fault" "I") (by decide +kernel)
  have L_89 := hts (.fieldLink RX12 89 "CaseOrderModel" "from" "I") (by decide +kernel)
  have L_147 := hts (.fieldLink RX12 147 "CaseOrderModel" "place" "I") (by decide +kernel)
  unfold f_X12_bad_b14 at hf
  refine g_put (ty := .int) hx hb hts i_X12 tyX12 tyX12_ok nmX12 hown hK hw 0 eR_c0 rfl 8 (by decide) L_144 (fun _ h => h) rfl (by decide +kernel) rfl rfl (Nat.le_of_ble_eq_true rfl) dX12_bad_14 (fun H locs hw => ?_)
  have hw : Wo D ad (Aw ad 19 s.heap.size) (eR ad y m_thrown m_taped m_size m_to m_from m_kind m_number w0 m_place m_name m_happenings m_newHappenings m_heard m_outs m_bounds a_tape a_happened a_many a_sort a_one a_other a_low a_high a_begins a_out a_behind a_ahead a_most a_left a_far a_quarrel a_early a_earlyLast) s.heap H locs := hw
  refine lv_aload_n hx hb dX12_bad_17 rfl (lv_at hl 0 rfl) ?_
  refine lv_aload_n hx hb dX12_bad_18 rfl (lv_at hl 0 rfl) ?_
  refine g_get hx hb hts i_X12 hown hK hw 0 eR_c0 rfl 5 (by decide) L_89 (fun _ h => h) rfl dX12_bad_19 ?_
  refine g_put (ty := .int) hx hb hts i_X12 tyX12 tyX12_ok nmX12 hown hK hw 0 eR_c0 rfl 9 (by decide) L_147 (fun _ h => h) rfl (by decide +kernel) rfl rfl (Nat.le_of_ble_eq_true rfl) dX12_bad_22 (fun H locs hw => ?_)
  have hw : Wo D ad (Aw ad 19 s.heap.size) (eR ad y m_thrown m_taped m_size m_to m_from m_kind m_number w0 m_from m_name m_happenings m_newHappenings m_heard m_outs m_bounds a_tape a_happened a_many a_sort a_one a_other a_low a_high a_begins a_out a_behind a_ahead a_most a_left a_far a_quarrel a_early a_earlyLast) s.heap H locs := hw
  refine lv_iconst (v := 0) hx hb dX12_bad_25 (by decide) ?_
  obtain rfl := so hf
  exact W.zret (v := 0) hx hb hr rfl (fun t ht _ => g_end hw t ht) hw.2.2.2.2 dX12_bad_26
set_option maxHeartbeats 4000000 in
set_option maxRecDepth 100000 in
theorem ke_X12_bad {p : Program} {l : Launch} {e : Env} {s : State} {m : MethodId} {args : Array Value} {below : List Frame} {meth : Method} {c : Code} {D : va_G} {ad : Nat → Nat} {y : Nat → ClassId} (C0 : CXT wsX12_bad cX12_bad RX12 2 (some .boolean) D (tyL y) (STR ad) p s m args meth c) {m_thrown : Int32} {m_taped : Int32} {m_size : Int32} {m_to : Int32} {m_from : Int32} {m_kind : Int32} {m_number : Int32} {m_fault : Int32} {m_place : Int32} {m_name : Int64} {m_happenings : Int32} {m_newHappenings : Int32} {m_heard : Int32} {m_outs : Int32} {m_bounds : Int32} {a_tape : Nat → Int32} {a_happened : Nat → Int64} {a_many : Nat → Int32} {a_sort : Nat → Int32} {a_one : Nat → Int32} {a_other : Nat → Int32} {a_low : Nat → Int32} {a_high : Nat → Int32} {a_begins : Nat → Int32} {a_out : Nat → Int32} {a_behind : Nat → Int32} {a_ahead : Nat → Int32} {a_most : Nat → Int32} {a_left : Nat → Int32} {a_far : Nat → Int32} {a_quarrel : Nat → Int32} {a_early : Nat → Int32} {a_earlyLast : Nat → Int32} {p1 : Int32} {res : Int32 × Int32 × Int32} (hf : f_X12_bad m_from m_kind m_fault m_place p1 = some res) {H : Heap} {locs : List Loc} {ls : Array Slot} (hw : Wo D ad (Aw ad 19 s.heap.size) (eR ad y m_thrown m_taped m_size m_to m_from m_kind m_number m_fault m_place m_name m_happenings m_newHappenings m_heard m_outs m_bounds a_tape a_happened a_many a_sort a_one a_other a_low a_high a_begins a_out a_behind a_ahead a_most a_left a_far a_quarrel a_early a_earlyLast) s.heap H locs) (hl : lv_has ls 2 [(0, .ref (ad 0)), (1, .int p1)]) : W p l e rm_X12_bad s m args below meth c H locs 0 0 (QM_X12_bad below args s D ad y (m_thrown) (m_taped) (m_size) (m_to) (m_from) (m_kind) (m_number) (m_name) (m_happenings) (m_newHappenings) (m_heard) (m_outs) (m_bounds) (a_tape) (a_happened) (a_many) (a_sort) (a_one) (a_other) (a_low) (a_high) (a_begins) (a_out) (a_behind) (a_ahead) (a_most) (a_left) (a_far) (a_quarrel) (a_early) (a_earlyLast) res) (F0 m 0 ls []) := by
  obtain ⟨hx, hb, hr, hml, hown, hts, hlocks, hK, hst⟩ := id C0
  have i_X12 : ∀ w ∈ u_ws RX12 TX12 33, w ∈ wsX12_bad := by decide +kernel
  have L_92 := hts (.fieldLink RX12 92 "CaseOrderModel" "kind" "I") (by decide +kernel)
  unfold f_X12_bad at hf
  refine lv_aload_n hx hb dX12_bad_0 rfl (lv_at hl 0 rfl) ?_
  refine lv_aload_n hx hb dX12_bad_1 rfl (lv_at hl 0 rfl) ?_
  refine g_get hx hb hts i_X12 hown hK hw 0 eR_c0 rfl 6 (by decide) L_92 (fun _ h => h) rfl dX12_bad_2 ?_
  refine lv_iconst (v := 1) hx hb dX12_bad_5 (by decide) ?_
  refine lv_icmp_ne (tgt := 13) hx hb dX12_bad_6 (by decide) (fun c1 => ?_) (fun c1 => ?_)
  · have hf := it_n c1 hf
    refine lv_iload_n hx hb dX12_bad_13 rfl (lv_at hl 1 rfl) ?_
    exact kb_X12_bad_b14 C0 hf hw (lv_sub hl [0] rfl)
  · have hf := it_p c1 hf
    refine lv_iconst (v := 1) hx hb dX12_bad_9 (by decide) ?_
    refine lv_goto (tgt := 14) hx hb dX12_bad_10 (by decide) ?_
    exact kb_X12_bad_b14 C0 hf hw (lv_sub hl [0] rfl)
set_option maxHeartbeats 4000000 in
theorem k_X12_bad {l : Launch} {D : va_G} {ad : Nat → Nat} {y : Nat → ClassId} {m_thrown : Int32} {m_taped : Int32} {m_size : Int32} {m_to : Int32} {m_from : Int32} {m_kind : Int32} {m_number : Int32} {m_fault : Int32} {m_place : Int32} {m_name : Int64} {m_happenings : Int32} {m_newHappenings : Int32} {m_heard : Int32} {m_outs : Int32} {m_bounds : Int32} {a_tape : Nat → Int32} {a_happened : Nat → Int64} {a_many : Nat → Int32} {a_sort : Nat → Int32} {a_one : Nat → Int32} {a_other : Nat → Int32} {a_low : Nat → Int32} {a_high : Nat → Int32} {a_begins : Nat → Int32} {a_out : Nat → Int32} {a_behind : Nat → Int32} {a_ahead : Nat → Int32} {a_most : Nat → Int32} {a_left : Nat → Int32} {a_far : Nat → Int32} {a_quarrel : Nat → Int32} {a_early : Nat → Int32} {a_earlyLast : Nat → Int32} {p1 : Int32} {res : Int32 × Int32 × Int32} (hf : f_X12_bad m_from m_kind m_fault m_place p1 = some res) : CTi l yX12_bad wsX12_bad rm_X12_bad D ad 19 (tyL y) (STR ad) (eR ad y m_thrown m_taped m_size m_to m_from m_kind m_number m_fault m_place m_name m_happenings m_newHappenings m_heard m_outs m_bounds a_tape a_happened a_many a_sort a_one a_other a_low a_high a_begins a_out a_behind a_ahead a_most a_left a_far a_quarrel a_early a_earlyLast) (eR ad y m_thrown m_taped m_size m_to m_from m_kind m_number res.2.1 res.2.2 m_name m_happenings m_newHappenings m_heard m_outs m_bounds a_tape a_happened a_many a_sort a_one a_other a_low a_high a_begins a_out a_behind a_ahead a_most a_left a_far a_quarrel a_early a_earlyLast) [.ref (ad 0), .int p1] res.1 := by
  intro sz
  refine Met.ofW (cc := cX12_bad) (maxL := 2) (ret := (some .boolean)) (by decide) rfl ?_
  intro p e s m args below meth c s₁ B hml hv
  obtain ⟨rfl, hsz, hP, hK, hD0, hst⟩ := hv
  subst hsz
  have C0 : CXT wsX12_bad cX12_bad RX12 2 (some .boolean) D (tyL y) (STR ad) p s m ([.ref (ad 0), .int p1] : List Value).toArray meth c := ⟨B.exec, B.bytes, B.returns, hml, findClass_of_methodNamed B.named, atoms_spec (ws := wsX12_bad) B.pre, B.notSynchronized, hK, hst⟩
  have hw := g_start (n := 19) rfl hP hD0
  have hl := lv_entry ([.ref (ad 0), .int p1]) (n := 2) (Nat.le_of_ble_eq_true rfl)
  rw [lg_entry_eq]
  generalize (lg_sl ([.ref (ad 0), .int p1]) ++ List.replicate (2 - (lg_sl ([.ref (ad 0), .int p1])).length) Slot.unset).toArray = ls at hl ⊢
  have hl : lv_has ls 2 [(0, .ref (ad 0)), (1, .int p1)] := hl
  exact ke_X12_bad C0 hf hw hl
abbrev rm_X12_find : Room := { frames := 0, cells := 0, slots := 0, locals := 0 }
abbrev QM_X12_find (below : List Frame) (args : Array Value) (s : State) (D : va_G) (ad : Nat → Nat) (y : Nat → ClassId) (m_thrown : Int32) (m_taped : Int32) (m_size : Int32) (m_to : Int32) (m_from : Int32) (m_kind : Int32) (m_number : Int32) (m_fault : Int32) (m_place : Int32) (m_name : Int64) (m_happenings : Int32) (m_newHappenings : Int32) (m_heard : Int32) (m_outs : Int32) (m_bounds : Int32) (a_tape : Nat → Int32) (a_happened : Nat → Int64) (a_many : Nat → Int32) (a_sort : Nat → Int32) (a_one : Nat → Int32) (a_other : Nat → Int32) (a_low : Nat → Int32) (a_high : Nat → Int32) (a_begins : Nat → Int32) (a_out : Nat → Int32) (a_behind : Nat → Int32) (a_ahead : Nat → Int32) (a_most : Nat → Int32) (a_left : Nat → Int32) (a_far : Nat → Int32) (a_quarrel : Nat → Int32) (a_early : Nat → Int32) (a_earlyLast : Nat → Int32) (res : Int32) : State → Prop := MQ below (va_Qi (fun x (_ : Unit) => x = res) (fun _ t => va_P D vwCl (wls ad (eR ad y m_thrown m_taped m_size m_to m_from m_kind m_number m_fault m_place m_name m_happenings m_newHappenings m_heard m_outs m_bounds a_tape a_happened a_many a_sort a_one a_other a_low a_high a_begins a_out a_behind a_ahead a_most a_left a_far a_quarrel a_early a_earlyLast)) t.heap) (Aw ad 19 s.heap.size)) args s 0 0 (Aw ad 19 s.heap.size)
set_option maxHeartbeats 4000000 in
set_option maxRecDepth 100000 in
theorem kw_X12_find_2 {p : Program} {l : Launch} {e : Env} {s : State} {m : MethodId} {args : Array Value} {below : List Frame} {meth : Method} {c : Code} {D : va_G} {ad : Nat → Nat} {y : Nat → ClassId} (C0 : CXT wsX12_find cX12_find RX12 3 (some .int) D (tyL y) (STR ad) p s m args meth c) {m_thrown : Int32} {m_taped : Int32} {m_size : Int32} {m_to : Int32} {m_from : Int32} {m_kind : Int32} {m_number : Int32} {m_fault : Int32} {m_place : Int32} {m_name : Int64} {m_happenings : Int32} {m_newHappenings : Int32} {m_heard : Int32} {m_outs : Int32} {m_bounds : Int32} {a_tape : Nat → Int32} {a_happened : Nat → Int64} {a_many : Nat → Int32} {a_sort : Nat → Int32} {a_one : Nat → Int32} {a_other : Nat → Int32} {a_low : Nat → Int32} {a_high : Nat → Int32} {a_begins : Nat → Int32} {a_out : Nat → Int32} {a_behind : Nat → Int32} {a_ahead : Nat → Int32} {a_most : Nat → Int32} {a_left : Nat → Int32} {a_far : Nat → Int32} {a_quarrel : Nat → Int32} {a_early : Nat → Int32} {a_earlyLast : Nat → Int32} {u1 : Int32} {res : Int32} {sg : Int32} {o : (Int32) ⊕ ((Int32) ⊕ (Int32))} (hf : f_X12_find_l2 m_name a_happened u1 sg = some o) {H : Heap} {locs : List Loc} {ls : Array Slot} (hw : Wo D ad (Aw ad 19 s.heap.size) (eR ad y m_thrown m_taped m_size m_to m_from m_kind m_number m_fault m_place m_name m_happenings m_newHappenings m_heard m_outs m_bounds a_tape a_happened a_many a_sort a_one a_other a_low a_high a_begins a_out a_behind a_ahead a_most a_left a_far a_quarrel a_early a_earlyLast) s.heap H locs) (hl : lv_has ls 3 [(0, .ref (ad 0)), (1, .int u1), (2, .int sg)]) (hcont : ∀ s2, o = .inl s2 → ∀ (H : Heap) (locs : List Loc) (ls : Array Slot), Wo D ad (Aw ad 19 s.heap.size) (eR ad y m_thrown m_taped m_size m_to m_from m_kind m_number m_fault m_place m_name m_happenings m_newHappenings m_heard m_outs m_bounds a_tape a_happened a_many a_sort a_one a_other a_low a_high a_begins a_out a_behind a_ahead a_most a_left a_far a_quarrel a_early a_earlyLast) s.heap H locs → lv_has ls 3 [(0, .ref (ad 0)), (1, .int u1), (2, .int s2)] → W p l e rm_X12_find s m args below meth c H locs 0 0 (QM_X12_find below args s D ad y (m_thrown) (m_taped) (m_size) (m_to) (m_from) (m_kind) (m_number) (m_fault) (m_place) (m_name) (m_happenings) (m_newHappenings) (m_heard) (m_outs) (m_bounds) (a_tape) (a_happened) (a_many) (a_sort) (a_one) (a_other) (a_low) (a_high) (a_begins) (a_out) (a_behind) (a_ahead) (a_most) (a_left) (a_far) (a_quarrel) (a_early) (a_earlyLast) res) (F0 m 2 ls [])) (hexit : ∀ t, o = .inr (.inl t) → ∀ (H : Heap) (locs : List Loc) (ls : Array Slot), Wo D ad (Aw ad 19 s.heap.size) (eR ad y m_thrown m_taped m_size m_to m_from m_kind m_number m_fault m_place m_name m_happenings m_newHappenings m_heard m_outs m_bounds a_tape a_happened a_many a_sort a_one a_other a_low a_high a_begins a_out a_behind a_ahead a_most a_left a_far a_quarrel a_early a_earlyLast) s.heap H locs → lv_has ls 3 [(0, .ref (ad 0)), (1, .int u1), (2, .int t)] → W p l e rm_X12_find s m args below meth c H locs 0 0 (QM_X12_find below args s D ad y (m_thrown) (m_taped) (m_size) (m_to) (m_from) (m_kind) (m_number) (m_fault) (m_place) (m_name) (m_happenings) (m_newHappenings) (m_heard) (m_outs) (m_bounds) (a_tape) (a_happened) (a_many) (a_sort) (a_one) (a_other) (a_low) (a_high) (a_begins) (a_out) (a_behind) (a_ahead) (a_most) (a_left) (a_far) (a_quarrel) (a_early) (a_earlyLast) res) (F0 m 29 ls [])) (hret : ∀ r, o = .inr (.inr r) → r = res) : W p l e rm_X12_find s m args below meth c H locs 0 0 (QM_X12_find below args s D ad y (m_thrown) (m_taped) (m_size) (m_to) (m_from) (m_kind) (m_number) (m_fault) (m_place) (m_name) (m_happenings) (m_newHappenings) (m_heard) (m_outs) (m_bounds) (a_tape) (a_happened) (a_many) (a_sort) (a_one) (a_other) (a_low) (a_high) (a_begins) (a_out) (a_behind) (a_ahead) (a_most) (a_left) (a_far) (a_quarrel) (a_early) (a_earlyLast) res) (F0 m 2 ls []) := by
  obtain ⟨hx, hb, hr, hml, hown, hts, hlocks, hK, hst⟩ := id C0
  have i_X12 : ∀ w ∈ u_ws RX12 TX12 33, w ∈ wsX12_find := by decide +kernel
  have L_13 := hts (.fieldLink RX12 13 "CaseOrderModel" "happened" "[J") (by decide +kernel)
  have L_105 := hts (.fieldLink RX12 105 "CaseOrderModel" "name" "J") (by decide +kernel)
  unfold f_X12_find_l2 at hf
  refine lv_iload_n hx hb dX12_find_2 rfl (lv_at hl 2 rfl) ?_
  refine lv_iload_n hx hb dX12_find_3 rfl (lv_at hl 1 rfl) ?_
  refine lv_icmp_ge (tgt := 29) hx hb dX12_find_4 (by decide) (fun c2 => ?_) (fun c2 => ?_)
  · have hf := it_p c2 hf
    exact hexit _ (so hf).symm _ _ _ hw (lv_sub hl [0, 1, 2] rfl)
  · have hf := it_n c2 hf
    refine lv_aload_n hx hb dX12_find_7 rfl (lv_at hl 0 rfl) ?_
    refine g_get hx hb hts i_X12 hown hK hw 0 eR_c0 rfl 11 (by decide) L_13 (fun _ h => h) rfl dX12_find_8 ?_
    refine lv_iload_n hx hb dX12_find_11 rfl (lv_at hl 2 rfl) ?_
    obtain ⟨g3, hf⟩ := gIn_some hf
    refine g_lald hx hb hK hw 2 3 eR_c2 rfl g3 dX12_find_12 ?_
    refine lv_aload_n hx hb dX12_find_13 rfl (lv_at hl 0 rfl) ?_
    refine g_get hx hb hts i_X12 hown hK hw 0 eR_c0 rfl 10 (by decide) L_105 (fun _ h => h) rfl dX12_find_14 ?_
    refine W.lcmp hx hb dX12_find_17 ?_
    refine lv_if_ne (tgt := 23) hx hb dX12_find_18 (by decide) (fun c4 => ?_) (fun c4 => ?_)
    · have hf := it_n c4 hf
      refine lv_iinc (v := sg + 1) (lv' := [(2, .int (sg + 1)), (0, .ref (ad 0)), (1, .int u1)]) hx hb dX12_find_23 hl (k := 2) rfl rfl (by decide) rfl (fun ls hl => ?_)
      refine lv_goto (tgt := 2) hx hb dX12_find_26 (by decide) ?_
      exact hcont _ (so hf).symm _ _ _ hw (lv_sub hl [1, 2, 0] rfl)
    · have hf := it_p c4 hf
      refine lv_iload_n hx hb dX12_find_21 rfl (lv_at hl 2 rfl) ?_
      obtain rfl := hret _ (so hf).symm
      exact W.iret (v := sg) hx hb hr (fun t ht _ => g_end hw t ht) hw.2.2.2.2 dX12_find_22
set_option maxHeartbeats 4000000 in
theorem kl_X12_find_2 {p : Program} {l : Launch} {e : Env} {s : State} {m : MethodId} {args : Array Value} {below : List Frame} {meth : Method} {c : Code} {D : va_G} {ad : Nat → Nat} {y : Nat → ClassId} (C0 : CXT wsX12_find cX12_find RX12 3 (some .int) D (tyL y) (STR ad) p s m args meth c) {m_thrown : Int32} {m_taped : Int32} {m_size : Int32} {m_to : Int32} {m_from : Int32} {m_kind : Int32} {m_number : Int32} {m_fault : Int32} {m_place : Int32} {m_name : Int64} {m_happenings : Int32} {m_newHappenings : Int32} {m_heard : Int32} {m_outs : Int32} {m_bounds : Int32} {a_tape : Nat → Int32} {a_happened : Nat → Int64} {a_many : Nat → Int32} {a_sort : Nat → Int32} {a_one : Nat → Int32} {a_other : Nat → Int32} {a_low : Nat → Int32} {a_high : Nat → Int32} {a_begins : Nat → Int32} {a_out : Nat → Int32} {a_behind : Nat → Int32} {a_ahead : Nat → Int32} {a_most : Nat → Int32} {a_left : Nat → Int32} {a_far : Nat → Int32} {a_quarrel : Nat → Int32} {a_early : Nat → Int32} {a_earlyLast : Nat → Int32} {u1 : Int32} {res : Int32} : ∀ (n : Nat) (sg : Int32) (q : (Int32) ⊕ (Int32)), lp (f_X12_find_l2 m_name a_happened u1) n sg = some q → ∀ (H : Heap) (locs : List Loc) (ls : Array Slot), Wo D ad (Aw ad 19 s.heap.size) (eR ad y m_thrown m_taped m_size m_to m_from m_kind m_number m_fault m_place m_name m_happenings m_newHappenings m_heard m_outs m_bounds a_tape a_happened a_many a_sort a_one a_other a_low a_high a_begins a_out a_behind a_ahead a_most a_left a_far a_quarrel a_early a_earlyLast) s.heap H locs → lv_has ls 3 [(0, .ref (ad 0)), (1, .int u1), (2, .int sg)] → (∀ t, q = .inl t → ∀ (H : Heap) (locs : List Loc) (ls : Array Slot), Wo D ad (Aw ad 19 s.heap.size) (eR ad y m_thrown m_taped m_size m_to m_from m_kind m_number m_fault m_place m_name m_happenings m_newHappenings m_heard m_outs m_bounds a_tape a_happened a_many a_sort a_one a_other a_low a_high a_begins a_out a_behind a_ahead a_most a_left a_far a_quarrel a_early a_earlyLast) s.heap H locs → lv_has ls 3 [(0, .ref (ad 0)), (1, .int u1), (2, .int t)] → W p l e rm_X12_find s m args below meth c H locs 0 0 (QM_X12_find below args s D ad y (m_thrown) (m_taped) (m_size) (m_to) (m_from) (m_kind) (m_number) (m_fault) (m_place) (m_name) (m_happenings) (m_newHappenings) (m_heard) (m_outs) (m_bounds) (a_tape) (a_happened) (a_many) (a_sort) (a_one) (a_other) (a_low) (a_high) (a_begins) (a_out) (a_behind) (a_ahead) (a_most) (a_left) (a_far) (a_quarrel) (a_early) (a_earlyLast) res) (F0 m 29 ls [])) → (∀ r, q = .inr r → r = res) → W p l e rm_X12_find s m args below meth c H locs 0 0 (QM_X12_find below args s D ad y (m_thrown) (m_taped) (m_size) (m_to) (m_from) (m_kind) (m_number) (m_fault) (m_place) (m_name) (m_happenings) (m_newHappenings) (m_heard) (m_outs) (m_bounds) (a_tape) (a_happened) (a_many) (a_sort) (a_one) (a_other) (a_low) (a_high) (a_begins) (a_out) (a_behind) (a_ahead) (a_most) (a_left) (a_far) (a_quarrel) (a_early) (a_earlyLast) res) (F0 m 2 ls []) := by
  intro n
  induction n with
  | zero => intro sg q hf; exact absurd hf lp_zero
  | succ n ih =>
    intro sg q hf H locs ls hw hl hexit hret
    rcases lp_succ hf with ⟨sg2, h1, h2⟩ | h1
    · exact kw_X12_find_2 C0 h1 hw hl (fun s2 e2 H locs ls hw hl => by cases e2; exact ih _ q h2 H locs ls hw hl hexit hret) (fun t e2 => by cases e2) (fun r e2 => by cases e2)
    · exact kw_X12_find_2 C0 h1 hw hl (fun s2 e2 => by cases e2) (fun t e2 => by cases e2; exact hexit t rfl) (fun r e2 => by cases e2; exact hret r rfl)
set_option maxHeartbeats 4000000 in
set_option maxRecDepth 100000 in
theorem ke_X12_find {p : Program} {l : Launch} {e : Env} {s : State} {m : MethodId} {args : Array Value} {below : List Frame} {meth : Method} {c : Code} {D : va_G} {ad : Nat → Nat} {y : Nat → ClassId} (C0 : CXT wsX12_find cX12_find RX12 3 (some .int) D (tyL y) (STR ad) p s m args meth c) {m_thrown : Int32} {m_taped : Int32} {m_size : Int32} {m_to : Int32} {m_from : Int32} {m_kind : Int32} {m_number : Int32} {m_fault : Int32} {m_place : Int32} {m_name : Int64} {m_happenings : Int32} {m_newHappenings : Int32} {m_heard : Int32} {m_outs : Int32} {m_bounds : Int32} {a_tape : Nat → Int32} {a_happened : Nat → Int64} {a_many : Nat → Int32} {a_sort : Nat → Int32} {a_one : Nat → Int32} {a_other : Nat → Int32} {a_low : Nat → Int32} {a_high : Nat → Int32} {a_begins : Nat → Int32} {a_out : Nat → Int32} {a_behind : Nat → Int32} {a_ahead : Nat → Int32} {a_most : Nat → Int32} {a_left : Nat → Int32} {a_far : Nat → Int32} {a_quarrel : Nat → Int32} {a_early : Nat → Int32} {a_earlyLast : Nat → Int32} {p1 : Int32} {res : Int32} (hf : f_X12_find m_name a_happened p1 = some res) {H : Heap} {locs : List Loc} {ls : Array Slot} (hw : Wo D ad (Aw ad 19 s.heap.size) (eR ad y m_thrown m_taped m_size m_to m_from m_kind m_number m_fault m_place m_name m_happenings m_newHappenings m_heard m_outs m_bounds a_tape a_happened a_many a_sort a_one a_other a_low a_high a_begins a_out a_behind a_ahead a_most a_left a_far a_quarrel a_early a_earlyLast) s.heap H locs) (hl : lv_has ls 3 [(0, .ref (ad 0)), (1, .int p1)]) : W p l e rm_X12_find s m args below meth c H locs 0 0 (QM_X12_find below args s D ad y (m_thrown) (m_taped) (m_size) (m_to) (m_from) (m_kind) (m_number) (m_fault) (m_place) (m_name) (m_happenings) (m_newHappenings) (m_heard) (m_outs) (m_bounds) (a_tape) (a_happened) (a_many) (a_sort) (a_one) (a_other) (a_low) (a_high) (a_begins) (a_out) (a_behind) (a_ahead) (a_most) (a_left) (a_far) (a_quarrel) (a_early) (a_earlyLast) res) (F0 m 0 ls []) := by
  obtain ⟨hx, hb, hr, hml, hown, hts, hlocks, hK, hst⟩ := id C0
  unfold f_X12_find at hf
  refine lv_iconst (v := 0) hx hb dX12_find_0 (by decide) ?_
  refine lv_istore_n (lv' := [(2, .int 0), (0, .ref (ad 0)), (1, .int p1)]) hx hb dX12_find_1 rfl hl (by decide) rfl (fun ls hl => ?_)
  obtain ⟨q5, hq5, hf⟩ := bd hf
  refine kl_X12_find_2 C0 gFU _ _ hq5 _ _ _ hw (lv_sub hl [1, 2, 0] rfl) (fun t6 et6 H locs ls hw hl => ?_) (fun r7 er7 => ?_)
  · rw [et6] at hf
    have hf := el_l hf
    have hw : Wo D ad (Aw ad 19 s.heap.size) (eR ad y m_thrown m_taped m_size m_to m_from m_kind m_number m_fault m_place m_name m_happenings m_newHappenings m_heard m_outs m_bounds a_tape a_happened a_many a_sort a_one a_other a_low a_high a_begins a_out a_behind a_ahead a_most a_left a_far a_quarrel a_early a_earlyLast) s.heap H locs := hw
    have hl : lv_has ls 3 [(0, .ref (ad 0)), (1, .int p1), (2, .int t6)] := hl
    refine lv_iconst (v := (-1)) hx hb dX12_find_29 (by decide) ?_
    obtain rfl := so hf
    exact W.iret (v := (-1)) hx hb hr (fun t ht _ => g_end hw t ht) hw.2.2.2.2 dX12_find_30
  · rw [er7] at hf
    have hf := el_r hf
    exact so hf
set_option maxHeartbeats 4000000 in
theorem k_X12_find {l : Launch} {D : va_G} {ad : Nat → Nat} {y : Nat → ClassId} {m_thrown : Int32} {m_taped : Int32} {m_size : Int32} {m_to : Int32} {m_from : Int32} {m_kind : Int32} {m_number : Int32} {m_fault : Int32} {m_place : Int32} {m_name : Int64} {m_happenings : Int32} {m_newHappenings : Int32} {m_heard : Int32} {m_outs : Int32} {m_bounds : Int32} {a_tape : Nat → Int32} {a_happened : Nat → Int64} {a_many : Nat → Int32} {a_sort : Nat → Int32} {a_one : Nat → Int32} {a_other : Nat → Int32} {a_low : Nat → Int32} {a_high : Nat → Int32} {a_begins : Nat → Int32} {a_out : Nat → Int32} {a_behind : Nat → Int32} {a_ahead : Nat → Int32} {a_most : Nat → Int32} {a_left : Nat → Int32} {a_far : Nat → Int32} {a_quarrel : Nat → Int32} {a_early : Nat → Int32} {a_earlyLast : Nat → Int32} {p1 : Int32} {res : Int32} (hf : f_X12_find m_name a_happened p1 = some res) : CTi l yX12_find wsX12_find rm_X12_find D ad 19 (tyL y) (STR ad) (eR ad y m_thrown m_taped m_size m_to m_from m_kind m_number m_fault m_place m_name m_happenings m_newHappenings m_heard m_outs m_bounds a_tape a_happened a_many a_sort a_one a_other a_low a_high a_begins a_out a_behind a_ahead a_most a_left a_far a_quarrel a_early a_earlyLast) (eR ad y m_thrown m_taped m_size m_to m_from m_kind m_number m_fault m_place m_name m_happenings m_newHappenings m_heard m_outs m_bounds a_tape a_happened a_many a_sort a_one a_other a_low a_high a_begins a_out a_behind a_ahead a_most a_left a_far a_quarrel a_early a_earlyLast) [.ref (ad 0), .int p1] res := by
  intro sz
  refine Met.ofW (cc := cX12_find) (maxL := 3) (ret := (some .int)) (by decide) rfl ?_
  intro p e s m args below meth c s₁ B hml hv
  obtain ⟨rfl, hsz, hP, hK, hD0, hst⟩ := hv
  subst hsz
  have C0 : CXT wsX12_find cX12_find RX12 3 (some .int) D (tyL y) (STR ad) p s m ([.ref (ad 0), .int p1] : List Value).toArray meth c := ⟨B.exec, B.bytes, B.returns, hml, findClass_of_methodNamed B.named, atoms_spec (ws := wsX12_find) B.pre, B.notSynchronized, hK, hst⟩
  have hw := g_start (n := 19) rfl hP hD0
  have hl := lv_entry ([.ref (ad 0), .int p1]) (n := 3) (Nat.le_of_ble_eq_true rfl)
  rw [lg_entry_eq]
  generalize (lg_sl ([.ref (ad 0), .int p1]) ++ List.replicate (3 - (lg_sl ([.ref (ad 0), .int p1])).length) Slot.unset).toArray = ls at hl ⊢
  have hl : lv_has ls 3 [(0, .ref (ad 0)), (1, .int p1)] := hl
  exact ke_X12_find C0 hf hw hl
abbrev rm_X12_readHappening : Room := { frames := 3, cells := 0, slots := 0, locals := 66 }
abbrev QM_X12_readHappening (below : List Frame) (args : Array Value) (s : State) (D : va_G) (ad : Nat → Nat) (y : Nat → ClassId) (m_thrown : Int32) (m_taped : Int32) (m_size : Int32) (m_happenings : Int32) (m_heard : Int32) (m_outs : Int32) (m_bounds : Int32) (a_tape : Nat → Int32) (a_many : Nat → Int32) (a_sort : Nat → Int32) (a_one : Nat → Int32) (a_other : Nat → Int32) (a_low : Nat → Int32) (a_high : Nat → Int32) (a_begins : Nat → Int32) (a_out : Nat → Int32) (a_behind : Nat → Int32) (a_ahead : Nat → Int32) (a_most : Nat → Int32) (a_left : Nat → Int32) (a_far : Nat → Int32) (a_quarrel : Nat → Int32) (a_early : Nat → Int32) (a_earlyLast : Nat → Int32) (res : Int32 × Int32 × Int32 × Int32 × Int32 × Int32 × Int32 × Int64 × Int32 × (Nat → Int64)) : State → Prop := MQ below (va_Qi (fun x (_ : Unit) => x = res.1) (fun _ t => va_P D vwCl (wls ad (eR ad y m_thrown m_taped m_size res.2.1 res.2.2.1 res.2.2.2.1 res.2.2.2.2.1 res.2.2.2.2.2.1 res.2.2.2.2.2.2.1 res.2.2.2.2.2.2.2.1 m_happenings res.2.2.2.2.2.2.2.2.1 m_heard m_outs m_bounds a_tape res.2.2.2.2.2.2.2.2.2 a_many a_sort a_one a_other a_low a_high a_begins a_out a_behind a_ahead a_most a_left a_far a_quarrel a_early a_earlyLast)) t.heap) (Aw ad 19 s.heap.size)) args s 0 0 (Aw ad 19 s.heap.size)
set_option maxHeartbeats 4000000 in
set_option maxRecDepth 100000 in
theorem kb_X12_readHappening_b89 {p : Program} {l : Launch} {e : Env} {s : State} {m : MethodId} {args : Array Value} {below : List Frame} {meth : Method} {c : Code} {D : va_G} {ad : Nat → Nat} {y : Nat → ClassId} (C0 : CXT wsX12_readHappening cX12_readHappening RX12 3 (some .int) D (tyL y) (STR ad) p s m args meth c) {m_thrown : Int32} {m_taped : Int32} {m_size : Int32} {m_to : Int32} {m_from : Int32} {m_kind : Int32} {m_number : Int32} {m_fault : Int32} {m_place : Int32} {m_name : Int64} {m_happenings : Int32} {m_newHappenings : Int32} {m_heard : Int32} {m_outs : Int32} {m_bounds : Int32} {a_tape : Nat → Int32} {a_happened : Nat → Int64} {a_many : Nat → Int32} {a_sort : Nat → Int32} {a_one : Nat → Int32} {a_other : Nat → Int32} {a_low : Nat → Int32} {a_high : Nat → Int32} {a_begins : Nat → Int32} {a_out : Nat → Int32} {a_behind : Nat → Int32} {a_ahead : Nat → Int32} {a_most : Nat → Int32} {a_left : Nat → Int32} {a_far : Nat → Int32} {a_quarrel : Nat → Int32} {a_early : Nat → Int32} {a_earlyLast : Nat → Int32} {u2 : Int32}   {res : Int32 × Int32 × Int32 × Int32 × Int32 × Int32 × Int32 × Int64 × Int32 × (Nat → Int64)} (hf : f_X12_readHappening_b89 m_size m_to m_from m_kind m_number m_fault m_place m_name m_newHappenings a_tape a_happened u2 = some res) {H : Heap} {locs : List Loc} {ls : Array Slot} (hw : Wo D ad (Aw ad 19 s.heap.size) (eR ad y m_thrown m_taped m_size m_to m_from m_kind m_number m_fault m_place m_name m_happenings m_newHappenings m_heard m_outs m_bounds a_tape a_happened a_many a_sort a_one a_other a_low a_high a_begins a_out a_behind a_ahead a_most a_left a_far a_quarrel a_early a_earlyLast) s.heap H locs) (hl : lv_has ls 3 [(0, .ref (ad 0)), (2, .int u2)]) : W p l e rm_X12_readHappening s m args below meth c H locs 0 0 (QM_X12_readHappening below args s D ad y (m_thrown) (m_taped) (m_size) (m_happenings) (m_heard) (m_outs) (m_bounds) (a_tape) (a_many) (a_sort) (a_one) (a_other) (a_low) (a_high) (a_begins) (a_out) (a_behind) (a_ahead) (a_most) (a_left) (a_far) (a_quarrel) (a_early) (a_earlyLast) res) (F0 m 89 ls []) := by
  obtain ⟨hx, hb, hr, hml, hown, hts, hlocks, hK, hst⟩ := id C0
  unfold f_X12_readHappening_b89 at hf
  refine lv_aload_n hx hb dX12_readHappening_89 rfl (lv_at hl 0 rfl) ?_
  obtain ⟨q13, hq13, hf⟩ := bd hf
  refine g_Vv (As := []) (rest := []) ⟨hx, hb, hml, hown, hts⟩ (k_X12_go hq13) (cwV 0 hts gX12_readHappening_X12_go rfl rfl rfl (by decide +kernel) ⟨Nat.le_of_ble_eq_true rfl, Nat.le_of_ble_eq_true rfl⟩) STR_ok hst hK hw rfl eR_c0 rfl rfl hl.1 rfl (Nat.le_of_ble_eq_true rfl) dX12_readHappening_90 ⟨Nat.zero_le _, Nat.zero_le _⟩ (fun H locs hw => ?_)
  have hw : Wo D ad (Aw ad 19 s.heap.size) (eR ad y m_thrown m_taped m_size q13.1 q13.2.1 q13.2.2.1 q13.2.2.2.1 m_fault m_place q13.2.2.2.2 m_happenings m_newHappenings m_heard m_outs m_bounds a_tape a_happened a_many a_sort a_one a_other a_low a_high a_begins a_out a_behind a_ahead a_most a_left a_far a_quarrel a_early a_earlyLast) s.heap H locs := hw
  refine lv_iload_n hx hb dX12_readHappening_93 rfl (lv_at hl 1 rfl) ?_
  obtain rfl := so hf
  exact W.iret (v := u2) hx hb hr (fun t ht _ => g_end hw t ht) hw.2.2.2.2 dX12_readHappening_94
set_option maxHeartbeats 4000000 in
set_option maxRecDepth 100000 in
theorem kb_X12_readHappening_b42 {p : Program} {l : Launch} {e : Env} {s : State} {m : MethodId} {args : Array Value} {below : List Frame} {meth : Method} {c : Code} {D : va_G} {ad : Nat → Nat} {y : Nat → ClassId} (C0 : CXT wsX12_readHappening cX12_readHappening RX12 3 (some .int) D (tyL y) (STR ad) p s m args meth c) {m_thrown : Int32} {m_taped : Int32} {m_size : Int32} {m_to : Int32} {m_from : Int32} {m_kind : Int32} {m_number : Int32} {m_fault : Int32} {m_place : Int32} {m_name : Int64} {m_happenings : Int32} {m_newHappenings : Int32} {m_heard : Int32} {m_outs : Int32} {m_bounds : Int32} {a_tape : Nat → Int32} {a_happened : Nat → Int64} {a_many : Nat → Int32} {a_sort : Nat → Int32} {a_one : Nat → Int32} {a_other : Nat → Int32} {a_low : Nat → Int32} {a_high : Nat → Int32} {a_begins : Nat → Int32} {a_out : Nat → Int32} {a_behind : Nat → Int32} {a_ahead : Nat → Int32} {a_most : Nat → Int32} {a_left : Nat → Int32} {a_far : Nat → Int32} {a_quarrel : Nat → Int32} {a_early : Nat → Int32} {a_earlyLast : Nat → Int32} {u2 : Int32}   {res : Int32 × Int32 × Int32 × Int32 × Int32 × Int32 × Int32 × Int64 × Int32 × (Nat → Int64)} (hf : f_X12_readHappening_b42 m_size m_to m_from m_kind m_number m_fault m_place m_name m_newHappenings a_tape a_happened u2 = some res) {H : Heap} {locs : List Loc} {ls : Array Slot} (hw : Wo D ad (Aw ad 19 s.heap.size) (eR ad y m_thrown m_taped m_size m_to m_from m_kind m_number m_fault m_place m_name m_happenings m_newHappenings m_heard m_outs m_bounds a_tape a_happened a_many a_sort a_one a_other a_low a_high a_begins a_out a_behind a_ahead a_most a_left a_far a_quarrel a_early a_earlyLast) s.heap H locs) (hl : lv_has ls 3 [(0, .ref (ad 0)), (2, .int u2)]) : W p l e rm_X12_readHappening s m args below meth c H locs 0 0 (QM_X12_readHappening below args s D ad y (m_thrown) (m_taped) (m_size) (m_happenings) (m_heard) (m_outs) (m_bounds) (a_tape) (a_many) (a_sort) (a_one) (a_other) (a_low) (a_high) (a_begins) (a_out) (a_behind) (a_ahead) (a_most) (a_left) (a_far) (a_quarrel) (a_early) (a_earlyLast) res) (F0 m 42 ls []) := by
  obtain ⟨hx, hb, hr, hml, hown, hts, hlocks, hK, hst⟩ := id C0
  have i_X12 : ∀ w ∈ u_ws RX12 TX12 33, w ∈ wsX12_readHappening := by decide +kernel
  have L_157 := hts (.fieldLink RX12 157 "CaseOrderModel" "newHappenings" "I") (by decide +kernel)
  have L_13 := hts (.fieldLink RX12 13 "CaseOrderModel" "happened" "[J") (by decide +kernel)
  have L_105 := hts (.fieldLink RX12 105 "CaseOrderModel" "name" "J") (by decide +kernel)
  unfold f_X12_readHappening_b42 at hf
  refine lv_iload_n hx hb dX12_readHappening_42 rfl (lv_at hl 1 rfl) ?_
  refine lv_iconst (v := (-1)) hx hb dX12_readHappening_43 (by decide) ?_
  refine lv_icmp_ne (tgt := 89) hx hb dX12_readHappening_44 (by decide) (fun c12 => ?_) (fun c12 => ?_)
  · have hf := it_n c12 hf
    exact kb_X12_readHappening_b89 C0 hf hw (lv_sub hl [0, 1] rfl)
  · have hf := it_p c12 hf
    refine lv_aload_n hx hb dX12_readHappening_47 rfl (lv_at hl 0 rfl) ?_
    refine g_get hx hb hts i_X12 hown hK hw 0 eR_c0 rfl 13 (by decide) L_157 (fun _ h => h) rfl dX12_readHappening_48 ?_
    refine lv_bipush (v := 20) hx hb dX12_readHappening_51 (by decide) ?_
    refine lv_icmp_ne (tgt := 64) hx hb dX12_readHappening_53 (by decide) (fun c14 => ?_) (fun c14 => ?_)
    · have hf := it_n c14 hf
      refine lv_aload_n hx hb dX12_readHappening_64 rfl (lv_at hl 0 rfl) ?_
      refine g_get hx hb hts i_X12 hown hK hw 0 eR_c0 rfl 13 (by decide) L_157 (fun _ h => h) rfl dX12_readHappening_65 ?_
      refine lv_istore_n (lv' := [(2, .int m_newHappenings), (0, .ref (ad 0))]) hx hb dX12_readHappening_68 rfl hl (by decide) rfl (fun ls hl => ?_)
      refine lv_aload_n hx hb dX12_readHappening_69 rfl (lv_at hl 1 rfl) ?_
      refine g_get hx hb hts i_X12 hown hK hw 0 eR_c0 rfl 11 (by decide) L_13 (fun _ h => h) rfl dX12_readHappening_70 ?_
      refine lv_iload_n hx hb dX12_readHappening_73 rfl (lv_at hl 0 rfl) ?_
      refine lv_aload_n hx hb dX12_readHappening_74 rfl (lv_at hl 1 rfl) ?_
      refine g_get hx hb hts i_X12 hown hK hw 0 eR_c0 rfl 10 (by decide) L_105 (fun _ h => h) rfl dX12_readHappening_75 ?_
      obtain ⟨g15, hf⟩ := gIn_some hf
      refine g_last hx hb hK hw 2 3 eR_c2 rfl g15 dX12_readHappening_78 (fun H locs hw => ?_)
      have hw : Wo D ad (Aw ad 19 s.heap.size) (eR ad y m_thrown m_taped m_size m_to m_from m_kind m_number m_fault m_place m_name m_happenings m_newHappenings m_heard m_outs m_bounds a_tape (vp_updL a_happened (Int32.toNatClampNeg m_newHappenings) m_name) a_many a_sort a_one a_other a_low a_high a_begins a_out a_behind a_ahead a_most a_left a_far a_quarrel a_early a_earlyLast) s.heap H locs := hw
      refine lv_aload_n hx hb dX12_readHappening_79 rfl (lv_at hl 1 rfl) ?_
      refine lv_dup hx hb dX12_readHappening_80 rfl ?_
      refine g_get hx hb hts i_X12 hown hK hw 0 eR_c0 rfl 13 (by decide) L_157 (fun _ h => h) rfl dX12_readHappening_81 ?_
      refine lv_iconst (v := 1) hx hb dX12_readHappening_84 (by decide) ?_
      refine lv_iadd hx hb dX12_readHappening_85 ?_
      refine g_put (ty := .int) hx hb hts i_X12 tyX12 tyX12_ok nmX12 hown hK hw 0 eR_c0 rfl 13 (by decide) L_157 (fun _ h => h) rfl (by decide +kernel) rfl rfl (Nat.le_of_ble_eq_true rfl) dX12_readHappening_86 (fun H locs hw => ?_)
      have hw : Wo D ad (Aw ad 19 s.heap.size) (eR ad y m_thrown m_taped m_size m_to m_from m_kind m_number m_fault m_place m_name m_happenings (m_newHappenings + 1) m_heard m_outs m_bounds a_tape (vp_updL a_happened (Int32.toNatClampNeg m_newHappenings) m_name) a_many a_sort a_one a_other a_low a_high a_begins a_out a_behind a_ahead a_most a_left a_far a_quarrel a_early a_earlyLast) s.heap H locs := hw
      exact kb_X12_readHappening_b89 C0 hf hw (lv_sub hl [1, 0] rfl)
    · have hf := it_p c14 hf
      refine lv_aload_n hx hb dX12_readHappening_56 rfl (lv_at hl 0 rfl) ?_
      refine lv_iconst (v := 4) hx hb dX12_readHappening_57 (by decide) ?_
      obtain ⟨q16, hq16, hf⟩ := bd hf
      refine g_Vi (As := [.int 4]) (rest := []) ⟨hx, hb, hml, hown, hts⟩ (k_X12_bad hq16) (cwV 1 hts gX12_readHappening_X12_bad rfl rfl rfl (by decide +kernel) ⟨Nat.le_of_ble_eq_true rfl, Nat.le_of_ble_eq_true rfl⟩) STR_ok hst hK hw rfl eR_c0 rfl rfl hl.1 rfl (Nat.le_of_ble_eq_true rfl) dX12_readHappening_58 ⟨Nat.zero_le _, Nat.zero_le _⟩ (fun H locs hw => ?_)
      have hw : Wo D ad (Aw ad 19 s.heap.size) (eR ad y m_thrown m_taped m_size m_to m_from m_kind m_number q16.2.1 q16.2.2 m_name m_happenings m_newHappenings m_heard m_outs m_bounds a_tape a_happened a_many a_sort a_one a_other a_low a_high a_begins a_out a_behind a_ahead a_most a_left a_far a_quarrel a_early a_earlyLast) s.heap H locs := hw
      refine lv_pop hx hb dX12_readHappening_61 rfl ?_
      refine lv_iconst (v := (-1)) hx hb dX12_readHappening_62 (by decide) ?_
      obtain rfl := so hf
      exact W.iret (v := (-1)) hx hb hr (fun t ht _ => g_end hw t ht) hw.2.2.2.2 dX12_readHappening_63
set_option maxHeartbeats 4000000 in
set_option maxRecDepth 100000 in
theorem ke_X12_readHappening {p : Program} {l : Launch} {e : Env} {s : State} {m : MethodId} {args : Array Value} {below : List Frame} {meth : Method} {c : Code} {D : va_G} {ad : Nat → Nat} {y : Nat → ClassId} (C0 : CXT wsX12_readHappening cX12_readHappening RX12 3 (some .int) D (tyL y) (STR ad) p s m args meth c) {m_thrown : Int32} {m_taped : Int32} {m_size : Int32} {m_to : Int32} {m_from : Int32} {m_kind : Int32} {m_number : Int32} {m_fault : Int32} {m_place : Int32} {m_name : Int64} {m_happenings : Int32} {m_newHappenings : Int32} {m_heard : Int32} {m_outs : Int32} {m_bounds : Int32} {a_tape : Nat → Int32} {a_happened : Nat → Int64} {a_many : Nat → Int32} {a_sort : Nat → Int32} {a_one : Nat → Int32} {a_other : Nat → Int32} {a_low : Nat → Int32} {a_high : Nat → Int32} {a_begins : Nat → Int32} {a_out : Nat → Int32} {a_behind : Nat → Int32} {a_ahead : Nat → Int32} {a_most : Nat → Int32} {a_left : Nat → Int32} {a_far : Nat → Int32} {a_quarrel : Nat → Int32} {a_early : Nat → Int32} {a_earlyLast : Nat → Int32} {p1 : Int32} {res : Int32 × Int32 × Int32 × Int32 × Int32 × Int32 × Int32 × Int64 × Int32 × (Nat → Int64)} (hf : f_X12_readHappening m_size m_to m_from m_kind m_number m_fault m_place m_name m_newHappenings a_tape a_happened p1 = some res) {H : Heap} {locs : List Loc} {ls : Array Slot} (hw : Wo D ad (Aw ad 19 s.heap.size) (eR ad y m_thrown m_taped m_size m_to m_from m_kind m_number m_fault m_place m_name m_happenings m_newHappenings m_heard m_outs m_bounds a_tape a_happened a_many a_sort a_one a_other a_low a_high a_begins a_out a_behind a_ahead a_most a_left a_far a_quarrel a_early a_earlyLast) s.heap H locs) (hl : lv_has ls 3 [(0, .ref (ad 0)), (1, .int p1)]) : W p l e rm_X12_readHappening s m args below meth c H locs 0 0 (QM_X12_readHappening below args s D ad y (m_thrown) (m_taped) (m_size) (m_happenings) (m_heard) (m_outs) (m_bounds) (a_tape) (a_many) (a_sort) (a_one) (a_other) (a_low) (a_high) (a_begins) (a_out) (a_behind) (a_ahead) (a_most) (a_left) (a_far) (a_quarrel) (a_early) (a_earlyLast) res) (F0 m 0 ls []) := by
  obtain ⟨hx, hb, hr, hml, hown, hts, hlocks, hK, hst⟩ := id C0
  have i_X12 : ∀ w ∈ u_ws RX12 TX12 33, w ∈ wsX12_readHappening := by decide +kernel
  have L_157 := hts (.fieldLink RX12 157 "CaseOrderModel" "newHappenings" "I") (by decide +kernel)
  unfold f_X12_readHappening at hf
  refine lv_aload_n hx hb dX12_readHappening_0 rfl (lv_at hl 0 rfl) ?_
  obtain ⟨q8, hq8, hf⟩ := bd hf
  refine g_Vi (As := []) (rest := []) ⟨hx, hb, hml, hown, hts⟩ (k_X12_isFree hq8) (cwV 0 hts gX12_readHappening_X12_isFree rfl rfl rfl (by decide +kernel) ⟨Nat.le_of_ble_eq_true rfl, Nat.le_of_ble_eq_true rfl⟩) STR_ok hst hK hw rfl eR_c0 rfl rfl hl.1 rfl (Nat.le_of_ble_eq_true rfl) dX12_readHappening_1 ⟨Nat.zero_le _, Nat.zero_le _⟩ (fun H locs hw => ?_)
  refine lv_if_ne (tgt := 15) hx hb dX12_readHappening_4 (by decide) (fun c9 => ?_) (fun c9 => ?_)
  · have hf := it_n c9 hf
    refine lv_aload_n hx hb dX12_readHappening_15 rfl (lv_at hl 0 rfl) ?_
    refine lv_aload_n hx hb dX12_readHappening_16 rfl (lv_at hl 0 rfl) ?_
    refine g_get hx hb hts i_X12 hown hK hw 0 eR_c0 rfl 13 (by decide) L_157 (fun _ h => h) rfl dX12_readHappening_17 ?_
    obtain ⟨q10, hq10, hf⟩ := bd hf
    refine g_Vi (As := [.int m_newHappenings]) (rest := []) ⟨hx, hb, hml, hown, hts⟩ (k_X12_find hq10) (cwV 1 hts gX12_readHappening_X12_find rfl rfl rfl (by decide +kernel) ⟨Nat.le_of_ble_eq_true rfl, Nat.le_of_ble_eq_true rfl⟩) STR_ok hst hK hw rfl eR_c0 rfl rfl hl.1 rfl (Nat.le_of_ble_eq_true rfl) dX12_readHappening_20 ⟨Nat.zero_le _, Nat.zero_le _⟩ (fun H locs hw => ?_)
    refine lv_istore_n (lv' := [(2, .int q10), (0, .ref (ad 0)), (1, .int p1)]) hx hb dX12_readHappening_23 rfl hl (by decide) rfl (fun ls hl => ?_)
    refine lv_iload_n hx hb dX12_readHappening_24 rfl (lv_at hl 0 rfl) ?_
    refine lv_iconst (v := (-1)) hx hb dX12_readHappening_25 (by decide) ?_
    refine lv_icmp_eq (tgt := 42) hx hb dX12_readHappening_26 (by decide) (fun c11 => ?_) (fun c11 => ?_)
    · have hf := it_p c11 hf
      exact kb_X12_readHappening_b42 C0 hf hw (lv_sub hl [1, 0] rfl)
    · have hf := it_n c11 hf
      refine lv_iload_n hx hb dX12_readHappening_29 rfl (lv_at hl 0 rfl) ?_
      refine lv_iload_n hx hb dX12_readHappening_30 rfl (lv_at hl 2 rfl) ?_
      refine lv_icmp_ne (tgt := 42) hx hb dX12_readHappening_31 (by decide) (fun c17 => ?_) (fun c17 => ?_)
      · have hf := it_n c17 hf
        exact kb_X12_readHappening_b42 C0 hf hw (lv_sub hl [1, 0] rfl)
      · have hf := it_p c17 hf
        refine lv_aload_n hx hb dX12_readHappening_34 rfl (lv_at hl 1 rfl) ?_
        refine lv_iconst (v := 3) hx hb dX12_readHappening_35 (by decide) ?_
        obtain ⟨q18, hq18, hf⟩ := bd hf
        refine g_Vi (As := [.int 3]) (rest := []) ⟨hx, hb, hml, hown, hts⟩ (k_X12_bad hq18) (cwV 1 hts gX12_readHappening_X12_bad rfl rfl rfl (by decide +kernel) ⟨Nat.le_of_ble_eq_true rfl, Nat.le_of_ble_eq_true rfl⟩) STR_ok hst hK hw rfl eR_c0 rfl rfl hl.1 rfl (Nat.le_of_ble_eq_true rfl) dX12_readHappening_36 ⟨Nat.zero_le _, Nat.zero_le _⟩ (fun H locs hw => ?_)
        have hw : Wo D ad (Aw ad 19 s.heap.size) (eR ad y m_thrown m_taped m_size m_to m_from m_kind m_number q18.2.1 q18.2.2 m_name m_happenings m_newHappenings m_heard m_outs m_bounds a_tape a_happened a_many a_sort a_one a_other a_low a_high a_begins a_out a_behind a_ahead a_most a_left a_far a_quarrel a_early a_earlyLast) s.heap H locs := hw
        refine lv_pop hx hb dX12_readHappening_39 rfl ?_
        refine lv_iconst (v := (-1)) hx hb dX12_readHappening_40 (by decide) ?_
        obtain rfl := so hf
        exact W.iret (v := (-1)) hx hb hr (fun t ht _ => g_end hw t ht) hw.2.2.2.2 dX12_readHappening_41
  · have hf := it_p c9 hf
    refine lv_aload_n hx hb dX12_readHappening_7 rfl (lv_at hl 0 rfl) ?_
    refine lv_iconst (v := 1) hx hb dX12_readHappening_8 (by decide) ?_
    obtain ⟨q19, hq19, hf⟩ := bd hf
    refine g_Vi (As := [.int 1]) (rest := []) ⟨hx, hb, hml, hown, hts⟩ (k_X12_bad hq19) (cwV 1 hts gX12_readHappening_X12_bad rfl rfl rfl (by decide +kernel) ⟨Nat.le_of_ble_eq_true rfl, Nat.le_of_ble_eq_true rfl⟩) STR_ok hst hK hw rfl eR_c0 rfl rfl hl.1 rfl (Nat.le_of_ble_eq_true rfl) dX12_readHappening_9 ⟨Nat.zero_le _, Nat.zero_le _⟩ (fun H locs hw => ?_)
    have hw : Wo D ad (Aw ad 19 s.heap.size) (eR ad y m_thrown m_taped m_size m_to m_from m_kind m_number q19.2.1 q19.2.2 m_name m_happenings m_newHappenings m_heard m_outs m_bounds a_tape a_happened a_many a_sort a_one a_other a_low a_high a_begins a_out a_behind a_ahead a_most a_left a_far a_quarrel a_early a_earlyLast) s.heap H locs := hw
    refine lv_pop hx hb dX12_readHappening_12 rfl ?_
    refine lv_iconst (v := (-1)) hx hb dX12_readHappening_13 (by decide) ?_
    obtain rfl := so hf
    exact W.iret (v := (-1)) hx hb hr (fun t ht _ => g_end hw t ht) hw.2.2.2.2 dX12_readHappening_14
set_option maxHeartbeats 4000000 in
theorem k_X12_readHappening {l : Launch} {D : va_G} {ad : Nat → Nat} {y : Nat → ClassId} {m_thrown : Int32} {m_taped : Int32} {m_size : Int32} {m_to : Int32} {m_from : Int32} {m_kind : Int32} {m_number : Int32} {m_fault : Int32} {m_place : Int32} {m_name : Int64} {m_happenings : Int32} {m_newHappenings : Int32} {m_heard : Int32} {m_outs : Int32} {m_bounds : Int32} {a_tape : Nat → Int32} {a_happened : Nat → Int64} {a_many : Nat → Int32} {a_sort : Nat → Int32} {a_one : Nat → Int32} {a_other : Nat → Int32} {a_low : Nat → Int32} {a_high : Nat → Int32} {a_begins : Nat → Int32} {a_out : Nat → Int32} {a_behind : Nat → Int32} {a_ahead : Nat → Int32} {a_most : Nat → Int32} {a_left : Nat → Int32} {a_far : Nat → Int32} {a_quarrel : Nat → Int32} {a_early : Nat → Int32} {a_earlyLast : Nat → Int32} {p1 : Int32} {res : Int32 × Int32 × Int32 × Int32 × Int32 × Int32 × Int32 × Int64 × Int32 × (Nat → Int64)} (hf : f_X12_readHappening m_size m_to m_from m_kind m_number m_fault m_place m_name m_newHappenings a_tape a_happened p1 = some res) : CTi l yX12_readHappening wsX12_readHappening rm_X12_readHappening D ad 19 (tyL y) (STR ad) (eR ad y m_thrown m_taped m_size m_to m_from m_kind m_number m_fault m_place m_name m_happenings m_newHappenings m_heard m_outs m_bounds a_tape a_happened a_many a_sort a_one a_other a_low a_high a_begins a_out a_behind a_ahead a_most a_left a_far a_quarrel a_early a_earlyLast) (eR ad y m_thrown m_taped m_size res.2.1 res.2.2.1 res.2.2.2.1 res.2.2.2.2.1 res.2.2.2.2.2.1 res.2.2.2.2.2.2.1 res.2.2.2.2.2.2.2.1 m_happenings res.2.2.2.2.2.2.2.2.1 m_heard m_outs m_bounds a_tape res.2.2.2.2.2.2.2.2.2 a_many a_sort a_one a_other a_low a_high a_begins a_out a_behind a_ahead a_most a_left a_far a_quarrel a_early a_earlyLast) [.ref (ad 0), .int p1] res.1 := by
  intro sz
  refine Met.ofW (cc := cX12_readHappening) (maxL := 3) (ret := (some .int)) (by decide) rfl ?_
  intro p e s m args below meth c s₁ B hml hv
  obtain ⟨rfl, hsz, hP, hK, hD0, hst⟩ := hv
  subst hsz
  have C0 : CXT wsX12_readHappening cX12_readHappening RX12 3 (some .int) D (tyL y) (STR ad) p s m ([.ref (ad 0), .int p1] : List Value).toArray meth c := ⟨B.exec, B.bytes, B.returns, hml, findClass_of_methodNamed B.named, atoms_spec (ws := wsX12_readHappening) B.pre, B.notSynchronized, hK, hst⟩
  have hw := g_start (n := 19) rfl hP hD0
  have hl := lv_entry ([.ref (ad 0), .int p1]) (n := 3) (Nat.le_of_ble_eq_true rfl)
  rw [lg_entry_eq]
  generalize (lg_sl ([.ref (ad 0), .int p1]) ++ List.replicate (3 - (lg_sl ([.ref (ad 0), .int p1])).length) Slot.unset).toArray = ls at hl ⊢
  have hl : lv_has ls 3 [(0, .ref (ad 0)), (1, .int p1)] := hl
  exact ke_X12_readHappening C0 hf hw hl
abbrev rm_X12_readNumber : Room := { frames := 3, cells := 0, slots := 0, locals := 66 }
abbrev QM_X12_readNumber (below : List Frame) (args : Array Value) (s : State) (D : va_G) (ad : Nat → Nat) (y : Nat → ClassId) (m_thrown : Int32) (m_taped : Int32) (m_size : Int32) (m_happenings : Int32) (m_newHappenings : Int32) (m_heard : Int32) (m_outs : Int32) (m_bounds : Int32) (a_tape : Nat → Int32) (a_happened : Nat → Int64) (a_many : Nat → Int32) (a_sort : Nat → Int32) (a_one : Nat → Int32) (a_other : Nat → Int32) (a_low : Nat → Int32) (a_high : Nat → Int32) (a_begins : Nat → Int32) (a_out : Nat → Int32) (a_behind : Nat → Int32) (a_ahead : Nat → Int32) (a_most : Nat → Int32) (a_left : Nat → Int32) (a_far : Nat → Int32) (a_quarrel : Nat → Int32) (a_early : Nat → Int32) (a_earlyLast : Nat → Int32) (res : Int32 × Int32 × Int32 × Int32 × Int32 × Int32 × Int32 × Int64) : State → Prop := MQ below (va_Qi (fun x (_ : Unit) => x = res.1) (fun _ t => va_P D vwCl (wls ad (eR ad y m_thrown m_taped m_size res.2.1 res.2.2.1 res.2.2.2.1 res.2.2.2.2.1 res.2.2.2.2.2.1 res.2.2.2.2.2.2.1 res.2.2.2.2.2.2.2 m_happenings m_newHappenings m_heard m_outs m_bounds a_tape a_happened a_many a_sort a_one a_other a_low a_high a_begins a_out a_behind a_ahead a_most a_left a_far a_quarrel a_early a_earlyLast)) t.heap) (Aw ad 19 s.heap.size)) args s 0 0 (Aw ad 19 s.heap.size)
set_option maxHeartbeats 4000000 in
set_option maxRecDepth 100000 in
theorem ke_X12_readNumber {p : Program} {l : Launch} {e : Env} {s : State} {m : MethodId} {args : Array Value} {below : List Frame} {meth : Method} {c : Code} {D : va_G} {ad : Nat → Nat} {y : Nat → ClassId} (C0 : CXT wsX12_readNumber cX12_readNumber RX12 3 (some .int) D (tyL y) (STR ad) p s m args meth c) {m_thrown : Int32} {m_taped : Int32} {m_size : Int32} {m_to : Int32} {m_from : Int32} {m_kind : Int32} {m_number : Int32} {m_fault : Int32} {m_place : Int32} {m_name : Int64} {m_happenings : Int32} {m_newHappenings : Int32} {m_heard : Int32} {m_outs : Int32} {m_bounds : Int32} {a_tape : Nat → Int32} {a_happened : Nat → Int64} {a_many : Nat → Int32} {a_sort : Nat → Int32} {a_one : Nat → Int32} {a_other : Nat → Int32} {a_low : Nat → Int32} {a_high : Nat → Int32} {a_begins : Nat → Int32} {a_out : Nat → Int32} {a_behind : Nat → Int32} {a_ahead : Nat → Int32} {a_most : Nat → Int32} {a_left : Nat → Int32} {a_far : Nat → Int32} {a_quarrel : Nat → Int32} {a_early : Nat → Int32} {a_earlyLast : Nat → Int32} {p1 : Int32} {res : Int32 × Int32 × Int32 × Int32 × Int32 × Int32 × Int32 × Int64} (hf : f_X12_readNumber m_size m_to m_from m_kind m_number m_fault m_place m_name a_tape p1 = some res) {H : Heap} {locs : List Loc} {ls : Array Slot} (hw : Wo D ad (Aw ad 19 s.heap.size) (eR ad y m_thrown m_taped m_size m_to m_from m_kind m_number m_fault m_place m_name m_happenings m_newHappenings m_heard m_outs m_bounds a_tape a_happened a_many a_sort a_one a_other a_low a_high a_begins a_out a_behind a_ahead a_most a_left a_far a_quarrel a_early a_earlyLast) s.heap H locs) (hl : lv_has ls 3 [(0, .ref (ad 0)), (1, .int p1)]) : W p l e rm_X12_readNumber s m args below meth c H locs 0 0 (QM_X12_readNumber below args s D ad y (m_thrown) (m_taped) (m_size) (m_happenings) (m_newHappenings) (m_heard) (m_outs) (m_bounds) (a_tape) (a_happened) (a_many) (a_sort) (a_one) (a_other) (a_low) (a_high) (a_begins) (a_out) (a_behind) (a_ahead) (a_most) (a_left) (a_far) (a_quarrel) (a_early) (a_earlyLast) res) (F0 m 0 ls []) := by
  obtain ⟨hx, hb, hr, hml, hown, hts, hlocks, hK, hst⟩ := id C0
  have i_X12 : ∀ w ∈ u_ws RX12 TX12 33, w ∈ wsX12_readNumber := by decide +kernel
  have L_92 := hts (.fieldLink RX12 92 "CaseOrderModel" "kind" "I") (by decide +kernel)
  have L_109 := hts (.fieldLink RX12 109 "CaseOrderModel" "number" "I") (by decide +kernel)
  unfold f_X12_readNumber at hf
  refine lv_aload_n hx hb dX12_readNumber_0 rfl (lv_at hl 0 rfl) ?_
  refine g_get hx hb hts i_X12 hown hK hw 0 eR_c0 rfl 6 (by decide) L_92 (fun _ h => h) rfl dX12_readNumber_1 ?_
  refine lv_iconst (v := 3) hx hb dX12_readNumber_4 (by decide) ?_
  refine lv_icmp_eq (tgt := 16) hx hb dX12_readNumber_5 (by decide) (fun c4 => ?_) (fun c4 => ?_)
  · have hf := it_p c4 hf
    refine lv_aload_n hx hb dX12_readNumber_16 rfl (lv_at hl 0 rfl) ?_
    refine g_get hx hb hts i_X12 hown hK hw 0 eR_c0 rfl 7 (by decide) L_109 (fun _ h => h) rfl dX12_readNumber_17 ?_
    refine lv_iload_n hx hb dX12_readNumber_20 rfl (lv_at hl 1 rfl) ?_
    refine lv_icmp_ge (tgt := 32) hx hb dX12_readNumber_21 (by decide) (fun c5 => ?_) (fun c5 => ?_)
    · have hf := it_p c5 hf
      refine lv_aload_n hx hb dX12_readNumber_32 rfl (lv_at hl 0 rfl) ?_
      refine g_get hx hb hts i_X12 hown hK hw 0 eR_c0 rfl 7 (by decide) L_109 (fun _ h => h) rfl dX12_readNumber_33 ?_
      refine lv_istore_n (lv' := [(2, .int m_number), (0, .ref (ad 0)), (1, .int p1)]) hx hb dX12_readNumber_36 rfl hl (by decide) rfl (fun ls hl => ?_)
      refine lv_aload_n hx hb dX12_readNumber_37 rfl (lv_at hl 1 rfl) ?_
      obtain ⟨q6, hq6, hf⟩ := bd hf
      refine g_Vv (As := []) (rest := []) ⟨hx, hb, hml, hown, hts⟩ (k_X12_go hq6) (cwV 0 hts gX12_readNumber_X12_go rfl rfl rfl (by decide +kernel) ⟨Nat.le_of_ble_eq_true rfl, Nat.le_of_ble_eq_true rfl⟩) STR_ok hst hK hw rfl eR_c0 rfl rfl hl.1 rfl (Nat.le_of_ble_eq_true rfl) dX12_readNumber_38 ⟨Nat.zero_le _, Nat.zero_le _⟩ (fun H locs hw => ?_)
      have hw : Wo D ad (Aw ad 19 s.heap.size) (eR ad y m_thrown m_taped m_size q6.1 q6.2.1 q6.2.2.1 q6.2.2.2.1 m_fault m_place q6.2.2.2.2 m_happenings m_newHappenings m_heard m_outs m_bounds a_tape a_happened a_many a_sort a_one a_other a_low a_high a_begins a_out a_behind a_ahead a_most a_left a_far a_quarrel a_early a_earlyLast) s.heap H locs := hw
      refine lv_iload_n hx hb dX12_readNumber_41 rfl (lv_at hl 0 rfl) ?_
      obtain rfl := so hf
      exact W.iret (v := m_number) hx hb hr (fun t ht _ => g_end hw t ht) hw.2.2.2.2 dX12_readNumber_42
    · have hf := it_n c5 hf
      refine lv_aload_n hx hb dX12_readNumber_24 rfl (lv_at hl 0 rfl) ?_
      refine lv_iconst (v := 2) hx hb dX12_readNumber_25 (by decide) ?_
      obtain ⟨q7, hq7, hf⟩ := bd hf
      refine g_Vi (As := [.int 2]) (rest := []) ⟨hx, hb, hml, hown, hts⟩ (k_X12_bad hq7) (cwV 1 hts gX12_readNumber_X12_bad rfl rfl rfl (by decide +kernel) ⟨Nat.le_of_ble_eq_true rfl, Nat.le_of_ble_eq_true rfl⟩) STR_ok hst hK hw rfl eR_c0 rfl rfl hl.1 rfl (Nat.le_of_ble_eq_true rfl) dX12_readNumber_26 ⟨Nat.zero_le _, Nat.zero_le _⟩ (fun H locs hw => ?_)
      have hw : Wo D ad (Aw ad 19 s.heap.size) (eR ad y m_thrown m_taped m_size m_to m_from m_kind m_number q7.2.1 q7.2.2 m_name m_happenings m_newHappenings m_heard m_outs m_bounds a_tape a_happened a_many a_sort a_one a_other a_low a_high a_begins a_out a_behind a_ahead a_most a_left a_far a_quarrel a_early a_earlyLast) s.heap H locs := hw
      refine lv_pop hx hb dX12_readNumber_29 rfl ?_
      refine lv_iconst (v := (-1)) hx hb dX12_readNumber_30 (by decide) ?_
      obtain rfl := so hf
      exact W.iret (v := (-1)) hx hb hr (fun t ht _ => g_end hw t ht) hw.2.2.2.2 dX12_readNumber_31
  · have hf := it_n c4 hf
    refine lv_aload_n hx hb dX12_readNumber_8 rfl (lv_at hl 0 rfl) ?_
    refine lv_iconst (v := 1) hx hb dX12_readNumber_9 (by decide) ?_
    obtain ⟨q8, hq8, hf⟩ := bd hf
    refine g_Vi (As := [.int 1]) (rest := []) ⟨hx, hb, hml, hown, hts⟩ (k_X12_bad hq8) (cwV 1 hts gX12_readNumber_X12_bad rfl rfl rfl (by decide +kernel) ⟨Nat.le_of_ble_eq_true rfl, Nat.le_of_ble_eq_true rfl⟩) STR_ok hst hK hw rfl eR_c0 rfl rfl hl.1 rfl (Nat.le_of_ble_eq_true rfl) dX12_readNumber_10 ⟨Nat.zero_le _, Nat.zero_le _⟩ (fun H locs hw => ?_)
    have hw : Wo D ad (Aw ad 19 s.heap.size) (eR ad y m_thrown m_taped m_size m_to m_from m_kind m_number q8.2.1 q8.2.2 m_name m_happenings m_newHappenings m_heard m_outs m_bounds a_tape a_happened a_many a_sort a_one a_other a_low a_high a_begins a_out a_behind a_ahead a_most a_left a_far a_quarrel a_early a_earlyLast) s.heap H locs := hw
    refine lv_pop hx hb dX12_readNumber_13 rfl ?_
    refine lv_iconst (v := (-1)) hx hb dX12_readNumber_14 (by decide) ?_
    obtain rfl := so hf
    exact W.iret (v := (-1)) hx hb hr (fun t ht _ => g_end hw t ht) hw.2.2.2.2 dX12_readNumber_15
set_option maxHeartbeats 4000000 in
theorem k_X12_readNumber {l : Launch} {D : va_G} {ad : Nat → Nat} {y : Nat → ClassId} {m_thrown : Int32} {m_taped : Int32} {m_size : Int32} {m_to : Int32} {m_from : Int32} {m_kind : Int32} {m_number : Int32} {m_fault : Int32} {m_place : Int32} {m_name : Int64} {m_happenings : Int32} {m_newHappenings : Int32} {m_heard : Int32} {m_outs : Int32} {m_bounds : Int32} {a_tape : Nat → Int32} {a_happened : Nat → Int64} {a_many : Nat → Int32} {a_sort : Nat → Int32} {a_one : Nat → Int32} {a_other : Nat → Int32} {a_low : Nat → Int32} {a_high : Nat → Int32} {a_begins : Nat → Int32} {a_out : Nat → Int32} {a_behind : Nat → Int32} {a_ahead : Nat → Int32} {a_most : Nat → Int32} {a_left : Nat → Int32} {a_far : Nat → Int32} {a_quarrel : Nat → Int32} {a_early : Nat → Int32} {a_earlyLast : Nat → Int32} {p1 : Int32} {res : Int32 × Int32 × Int32 × Int32 × Int32 × Int32 × Int32 × Int64} (hf : f_X12_readNumber m_size m_to m_from m_kind m_number m_fault m_place m_name a_tape p1 = some res) : CTi l yX12_readNumber wsX12_readNumber rm_X12_readNumber D ad 19 (tyL y) (STR ad) (eR ad y m_thrown m_taped m_size m_to m_from m_kind m_number m_fault m_place m_name m_happenings m_newHappenings m_heard m_outs m_bounds a_tape a_happened a_many a_sort a_one a_other a_low a_high a_begins a_out a_behind a_ahead a_most a_left a_far a_quarrel a_early a_earlyLast) (eR ad y m_thrown m_taped m_size res.2.1 res.2.2.1 res.2.2.2.1 res.2.2.2.2.1 res.2.2.2.2.2.1 res.2.2.2.2.2.2.1 res.2.2.2.2.2.2.2 m_happenings m_newHappenings m_heard m_outs m_bounds a_tape a_happened a_many a_sort a_one a_other a_low a_high a_begins a_out a_behind a_ahead a_most a_left a_far a_quarrel a_early a_earlyLast) [.ref (ad 0), .int p1] res.1 := by
  intro sz
  refine Met.ofW (cc := cX12_readNumber) (maxL := 3) (ret := (some .int)) (by decide) rfl ?_
  intro p e s m args below meth c s₁ B hml hv
  obtain ⟨rfl, hsz, hP, hK, hD0, hst⟩ := hv
  subst hsz
  have C0 : CXT wsX12_readNumber cX12_readNumber RX12 3 (some .int) D (tyL y) (STR ad) p s m ([.ref (ad 0), .int p1] : List Value).toArray meth c := ⟨B.exec, B.bytes, B.returns, hml, findClass_of_methodNamed B.named, atoms_spec (ws := wsX12_readNumber) B.pre, B.notSynchronized, hK, hst⟩
  have hw := g_start (n := 19) rfl hP hD0
  have hl := lv_entry ([.ref (ad 0), .int p1]) (n := 3) (Nat.le_of_ble_eq_true rfl)
  rw [lg_entry_eq]
  generalize (lg_sl ([.ref (ad 0), .int p1]) ++ List.replicate (3 - (lg_sl ([.ref (ad 0), .int p1])).length) Slot.unset).toArray = ls at hl ⊢
  have hl : lv_has ls 3 [(0, .ref (ad 0)), (1, .int p1)] := hl
  exact ke_X12_readNumber C0 hf hw hl
abbrev rm_X12_readSpan : Room := { frames := 4, cells := 0, slots := 0, locals := 88 }
abbrev QM_X12_readSpan (below : List Frame) (args : Array Value) (s : State) (D : va_G) (ad : Nat → Nat) (y : Nat → ClassId) (m_thrown : Int32) (m_taped : Int32) (m_size : Int32) (m_happenings : Int32) (m_newHappenings : Int32) (m_heard : Int32) (m_outs : Int32) (m_bounds : Int32) (a_tape : Nat → Int32) (a_happened : Nat → Int64) (a_many : Nat → Int32) (a_sort : Nat → Int32) (a_one : Nat → Int32) (a_other : Nat → Int32) (a_begins : Nat → Int32) (a_out : Nat → Int32) (a_behind : Nat → Int32) (a_ahead : Nat → Int32) (a_most : Nat → Int32) (a_left : Nat → Int32) (a_far : Nat → Int32) (a_quarrel : Nat → Int32) (a_early : Nat → Int32) (a_earlyLast : Nat → Int32) (res : Int32 × Int32 × Int32 × Int32 × Int32 × Int32 × Int32 × Int64 × (Nat → Int32) × (Nat → Int32)) : State → Prop := MQ below (va_Qi (fun x (_ : Unit) => x = res.1) (fun _ t => va_P D vwCl (wls ad (eR ad y m_thrown m_taped m_size res.2.1 res.2.2.1 res.2.2.2.1 res.2.2.2.2.1 res.2.2.2.2.2.1 res.2.2.2.2.2.2.1 res.2.2.2.2.2.2.2.1 m_happenings m_newHappenings m_heard m_outs m_bounds a_tape a_happened a_many a_sort a_one a_other res.2.2.2.2.2.2.2.2.1 res.2.2.2.2.2.2.2.2.2 a_begins a_out a_behind a_ahead a_most a_left a_far a_quarrel a_early a_earlyLast)) t.heap) (Aw ad 19 s.heap.size)) args s 0 0 (Aw ad 19 s.heap.size)
set_option maxHeartbeats 4000000 in
set_option maxRecDepth 100000 in
theorem kb_X12_readSpan_b39 {p : Program} {l : Launch} {e : Env} {s : State} {m : MethodId} {args : Array Value} {below : List Frame} {meth : Method} {c : Code} {D : va_G} {ad : Nat → Nat} {y : Nat → ClassId} (C0 : CXT wsX12_readSpan cX12_readSpan RX12 4 (some .boolean) D (tyL y) (STR ad) p s m args meth c) {m_thrown : Int32} {m_taped : Int32} {m_size : Int32} {m_to : Int32} {m_from : Int32} {m_kind : Int32} {m_number : Int32} {m_fault : Int32} {m_place : Int32} {m_name : Int64} {m_happenings : Int32} {m_newHappenings : Int32} {m_heard : Int32} {m_outs : Int32} {m_bounds : Int32} {a_tape : Nat → Int32} {a_happened : Nat → Int64} {a_many : Nat → Int32} {a_sort : Nat → Int32} {a_one : Nat → Int32} {a_other : Nat → Int32} {a_low : Nat → Int32} {a_high : Nat → Int32} {a_begins : Nat → Int32} {a_out : Nat → Int32} {a_behind : Nat → Int32} {a_ahead : Nat → Int32} {a_most : Nat → Int32} {a_left : Nat → Int32} {a_far : Nat → Int32} {a_quarrel : Nat → Int32} {a_early : Nat → Int32} {a_earlyLast : Nat → Int32} {u1 : Int32}   {res : Int32 × Int32 × Int32 × Int32 × Int32 × Int32 × Int32 × Int64 × (Nat → Int32) × (Nat → Int32)} (hf : f_X12_readSpan_b39 m_size m_to m_from m_kind m_number m_fault m_place m_name a_tape a_low a_high u1 = some res) {H : Heap} {locs : List Loc} {ls : Array Slot} (hw : Wo D ad (Aw ad 19 s.heap.size) (eR ad y m_thrown m_taped m_size m_to m_from m_kind m_number m_fault m_place m_name m_happenings m_newHappenings m_heard m_outs m_bounds a_tape a_happened a_many a_sort a_one a_other a_low a_high a_begins a_out a_behind a_ahead a_most a_left a_far a_quarrel a_early a_earlyLast) s.heap H locs) (hl : lv_has ls 4 [(0, .ref (ad 0)), (1, .int u1)]) : W p l e rm_X12_readSpan s m args below meth c H locs 0 0 (QM_X12_readSpan below args s D ad y (m_thrown) (m_taped) (m_size) (m_happenings) (m_newHappenings) (m_heard) (m_outs) (m_bounds) (a_tape) (a_happened) (a_many) (a_sort) (a_one) (a_other) (a_begins) (a_out) (a_behind) (a_ahead) (a_most) (a_left) (a_far) (a_quarrel) (a_early) (a_earlyLast) res) (F0 m 39 ls []) := by
  obtain ⟨hx, hb, hr, hml, hown, hts, hlocks, hK, hst⟩ := id C0
  have L_126 := hts (.fieldLink RX12 126 "CaseOrderModel" "TO" "J") (by decide +kernel)
  have i_X12 : ∀ w ∈ u_ws RX12 TX12 33, w ∈ wsX12_readSpan := by decide +kernel
  have L_32 := hts (.fieldLink RX12 32 "CaseOrderModel" "high" "[I") (by decide +kernel)
  have L_29 := hts (.fieldLink RX12 29 "CaseOrderModel" "low" "[I") (by decide +kernel)
  unfold f_X12_readSpan_b39 at hf
  refine lv_aload_n hx hb dX12_readSpan_39 rfl (lv_at hl 0 rfl) ?_
  refine va_gets hx hb (STR_get (n := "TO") (v := 555) (by decide) hst) hw.2.2 hown L_126 (fun _ h => h) dX12_readSpan_40 ?_
  obtain ⟨q17, hq17, hf⟩ := bd hf
  refine g_Vi (As := [.long 555]) (rest := []) ⟨hx, hb, hml, hown, hts⟩ (k_X12_isKey hq17) (cwV 1 hts gX12_readSpan_X12_isKey rfl rfl rfl (by decide +kernel) ⟨Nat.le_of_ble_eq_true rfl, Nat.le_of_ble_eq_true rfl⟩) STR_ok hst hK hw rfl eR_c0 rfl rfl hl.1 rfl (Nat.le_of_ble_eq_true rfl) dX12_readSpan_43 ⟨Nat.zero_le _, Nat.zero_le _⟩ (fun H locs hw => ?_)
  refine lv_if_ne (tgt := 55) hx hb dX12_readSpan_46 (by decide) (fun c18 => ?_) (fun c18 => ?_)
  · have hf := it_n c18 hf
    refine lv_aload_n hx hb dX12_readSpan_55 rfl (lv_at hl 0 rfl) ?_
    obtain ⟨q19, hq19, hf⟩ := bd hf
    refine g_Vv (As := []) (rest := []) ⟨hx, hb, hml, hown, hts⟩ (k_X12_go hq19) (cwV 0 hts gX12_readSpan_X12_go rfl rfl rfl (by decide +kernel) ⟨Nat.le_of_ble_eq_true rfl, Nat.le_of_ble_eq_true rfl⟩) STR_ok hst hK hw rfl eR_c0 rfl rfl hl.1 rfl (Nat.le_of_ble_eq_true rfl) dX12_readSpan_56 ⟨Nat.zero_le _, Nat.zero_le _⟩ (fun H locs hw => ?_)
    have hw : Wo D ad (Aw ad 19 s.heap.size) (eR ad y m_thrown m_taped m_size q19.1 q19.2.1 q19.2.2.1 q19.2.2.2.1 m_fault m_place q19.2.2.2.2 m_happenings m_newHappenings m_heard m_outs m_bounds a_tape a_happened a_many a_sort a_one a_other a_low a_high a_begins a_out a_behind a_ahead a_most a_left a_far a_quarrel a_early a_earlyLast) s.heap H locs := hw
    refine lv_aload_n hx hb dX12_readSpan_59 rfl (lv_at hl 0 rfl) ?_
    refine g_get hx hb hts i_X12 hown hK hw 0 eR_c0 rfl 19 (by decide) L_32 (fun _ h => h) rfl dX12_readSpan_60 ?_
    refine lv_iload_n hx hb dX12_readSpan_63 rfl (lv_at hl 1 rfl) ?_
    refine lv_aload_n hx hb dX12_readSpan_64 rfl (lv_at hl 0 rfl) ?_
    refine lv_aload_n hx hb dX12_readSpan_65 rfl (lv_at hl 0 rfl) ?_
    refine g_get hx hb hts i_X12 hown hK hw 0 eR_c0 rfl 18 (by decide) L_29 (fun _ h => h) rfl dX12_readSpan_66 ?_
    refine lv_iload_n hx hb dX12_readSpan_69 rfl (lv_at hl 1 rfl) ?_
    obtain ⟨g20, hf⟩ := gIn_some hf
    refine g_iald hx hb hK hw 7 1 eR_c7 rfl g20 dX12_readSpan_70 ?_
    obtain ⟨q21, hq21, hf⟩ := bd hf
    refine g_Vi (As := [.int (a_low (Int32.toNatClampNeg u1))]) (rest := [.int u1, .ref (ad 8)]) ⟨hx, hb, hml, hown, hts⟩ (k_X12_readNumber hq21) (cwV 1 hts gX12_readSpan_X12_readNumber rfl rfl rfl (by decide +kernel) ⟨Nat.le_of_ble_eq_true rfl, Nat.le_of_ble_eq_true rfl⟩) STR_ok hst hK hw rfl eR_c0 rfl rfl hl.1 rfl (Nat.le_of_ble_eq_true rfl) dX12_readSpan_71 ⟨Nat.zero_le _, Nat.zero_le _⟩ (fun H locs hw => ?_)
    have hw : Wo D ad (Aw ad 19 s.heap.size) (eR ad y m_thrown m_taped m_size q21.2.1 q21.2.2.1 q21.2.2.2.1 q21.2.2.2.2.1 q21.2.2.2.2.2.1 q21.2.2.2.2.2.2.1 q21.2.2.2.2.2.2.2 m_happenings m_newHappenings m_heard m_outs m_bounds a_tape a_happened a_many a_sort a_one a_other a_low a_high a_begins a_out a_behind a_ahead a_most a_left a_far a_quarrel a_early a_earlyLast) s.heap H locs := hw
    obtain ⟨g22, hf⟩ := gIn_some hf
    refine g_iast hx hb hK hw 8 1 eR_c8 rfl g22 dX12_readSpan_74 (fun H locs hw => ?_)
    have hw : Wo D ad (Aw ad 19 s.heap.size) (eR ad y m_thrown m_taped m_size q21.2.1 q21.2.2.1 q21.2.2.2.1 q21.2.2.2.2.1 q21.2.2.2.2.2.1 q21.2.2.2.2.2.2.1 q21.2.2.2.2.2.2.2 m_happenings m_newHappenings m_heard m_outs m_bounds a_tape a_happened a_many a_sort a_one a_other a_low (upd a_high (Int32.toNatClampNeg u1) q21.1) a_begins a_out a_behind a_ahead a_most a_left a_far a_quarrel a_early a_earlyLast) s.heap H locs := hw
    refine lv_aload_n hx hb dX12_readSpan_75 rfl (lv_at hl 0 rfl) ?_
    refine g_get hx hb hts i_X12 hown hK hw 0 eR_c0 rfl 19 (by decide) L_32 (fun _ h => h) rfl dX12_readSpan_76 ?_
    refine lv_iload_n hx hb dX12_readSpan_79 rfl (lv_at hl 1 rfl) ?_
    obtain ⟨g23, hf⟩ := gIn_some hf
    refine g_iald hx hb hK hw 8 1 eR_c8 rfl g23 dX12_readSpan_80 ?_
    refine lv_iconst (v := (-1)) hx hb dX12_readSpan_81 (by decide) ?_
    refine lv_icmp_eq (tgt := 89) hx hb dX12_readSpan_82 (by decide) (fun c24 => ?_) (fun c24 => ?_)
    · have hf := it_p c24 hf
      refine lv_iconst (v := 0) hx hb dX12_readSpan_89 (by decide) ?_
      obtain rfl := so hf
      exact W.zret (v := 0) hx hb hr rfl (fun t ht _ => g_end hw t ht) hw.2.2.2.2 dX12_readSpan_90
    · have hf := it_n c24 hf
      refine lv_iconst (v := 1) hx hb dX12_readSpan_85 (by decide) ?_
      refine lv_goto (tgt := 90) hx hb dX12_readSpan_86 (by decide) ?_
      obtain rfl := so hf
      exact W.zret (v := 1) hx hb hr rfl (fun t ht _ => g_end hw t ht) hw.2.2.2.2 dX12_readSpan_90
  · have hf := it_p c18 hf
    refine lv_aload_n hx hb dX12_readSpan_49 rfl (lv_at hl 0 rfl) ?_
    refine lv_iconst (v := 1) hx hb dX12_readSpan_50 (by decide) ?_
    obtain ⟨q25, hq25, hf⟩ := bd hf
    refine g_Vi (As := [.int 1]) (rest := []) ⟨hx, hb, hml, hown, hts⟩ (k_X12_bad hq25) (cwV 1 hts gX12_readSpan_X12_bad rfl rfl rfl (by decide +kernel) ⟨Nat.le_of_ble_eq_true rfl, Nat.le_of_ble_eq_true rfl⟩) STR_ok hst hK hw rfl eR_c0 rfl rfl hl.1 rfl (Nat.le_of_ble_eq_true rfl) dX12_readSpan_51 ⟨Nat.zero_le _, Nat.zero_le _⟩ (fun H locs hw => ?_)
    have hw : Wo D ad (Aw ad 19 s.heap.size) (eR ad y m_thrown m_taped m_size m_to m_from m_kind m_number q25.2.1 q25.2.2 m_name m_happenings m_newHappenings m_heard m_outs m_bounds a_tape a_happened a_many a_sort a_one a_other a_low a_high a_begins a_out a_behind a_ahead a_most a_left a_far a_quarrel a_early a_earlyLast) s.heap H locs := hw
    obtain ⟨g26, hf⟩ := gB_some hf
    obtain rfl := so hf
    exact W.zret (v := q25.1) hx hb hr (gB_n g26) (fun t ht _ => g_end hw t ht) hw.2.2.2.2 dX12_readSpan_54
set_option maxHeartbeats 4000000 in
set_option maxRecDepth 100000 in
theorem ke_X12_readSpan {p : Program} {l : Launch} {e : Env} {s : State} {m : MethodId} {args : Array Value} {below : List Frame} {meth : Method} {c : Code} {D : va_G} {ad : Nat → Nat} {y : Nat → ClassId} (C0 : CXT wsX12_readSpan cX12_readSpan RX12 4 (some .boolean) D (tyL y) (STR ad) p s m args meth c) {m_thrown : Int32} {m_taped : Int32} {m_size : Int32} {m_to : Int32} {m_from : Int32} {m_kind : Int32} {m_number : Int32} {m_fault : Int32} {m_place : Int32} {m_name : Int64} {m_happenings : Int32} {m_newHappenings : Int32} {m_heard : Int32} {m_outs : Int32} {m_bounds : Int32} {a_tape : Nat → Int32} {a_happened : Nat → Int64} {a_many : Nat → Int32} {a_sort : Nat → Int32} {a_one : Nat → Int32} {a_other : Nat → Int32} {a_low : Nat → Int32} {a_high : Nat → Int32} {a_begins : Nat → Int32} {a_out : Nat → Int32} {a_behind : Nat → Int32} {a_ahead : Nat → Int32} {a_most : Nat → Int32} {a_left : Nat → Int32} {a_far : Nat → Int32} {a_quarrel : Nat → Int32} {a_early : Nat → Int32} {a_earlyLast : Nat → Int32} {p1 : Int32} {p2 : Int32} {p3 : Int32} {res : Int32 × Int32 × Int32 × Int32 × Int32 × Int32 × Int32 × Int64 × (Nat → Int32) × (Nat → Int32)} (hf : f_X12_readSpan m_size m_to m_from m_kind m_number m_fault m_place m_name a_tape a_low a_high p1 p2 p3 = some res) {H : Heap} {locs : List Loc} {ls : Array Slot} (hw : Wo D ad (Aw ad 19 s.heap.size) (eR ad y m_thrown m_taped m_size m_to m_from m_kind m_number m_fault m_place m_name m_happenings m_newHappenings m_heard m_outs m_bounds a_tape a_happened a_many a_sort a_one a_other a_low a_high a_begins a_out a_behind a_ahead a_most a_left a_far a_quarrel a_early a_earlyLast) s.heap H locs) (hl : lv_has ls 4 [(0, .ref (ad 0)), (1, .int p1), (2, .int p2), (3, .int p3)]) : W p l e rm_X12_readSpan s m args below meth c H locs 0 0 (QM_X12_readSpan below args s D ad y (m_thrown) (m_taped) (m_size) (m_happenings) (m_newHappenings) (m_heard) (m_outs) (m_bounds) (a_tape) (a_happened) (a_many) (a_sort) (a_one) (a_other) (a_begins) (a_out) (a_behind) (a_ahead) (a_most) (a_left) (a_far) (a_quarrel) (a_early) (a_earlyLast) res) (F0 m 0 ls []) := by
  obtain ⟨hx, hb, hr, hml, hown, hts, hlocks, hK, hst⟩ := id C0
  have i_X12 : ∀ w ∈ u_ws RX12 TX12 33, w ∈ wsX12_readSpan := by decide +kernel
  have L_29 := hts (.fieldLink RX12 29 "CaseOrderModel" "low" "[I") (by decide +kernel)
  have L_126 := hts (.fieldLink RX12 126 "CaseOrderModel" "TO" "J") (by decide +kernel)
  unfold f_X12_readSpan at hf
  refine lv_aload_n hx hb dX12_readSpan_0 rfl (lv_at hl 0 rfl) ?_
  refine g_get hx hb hts i_X12 hown hK hw 0 eR_c0 rfl 18 (by decide) L_29 (fun _ h => h) rfl dX12_readSpan_1 ?_
  refine lv_iload_n hx hb dX12_readSpan_4 rfl (lv_at hl 1 rfl) ?_
  refine lv_aload_n hx hb dX12_readSpan_5 rfl (lv_at hl 0 rfl) ?_
  refine lv_iload_n hx hb dX12_readSpan_6 rfl (lv_at hl 2 rfl) ?_
  obtain ⟨q12, hq12, hf⟩ := bd hf
  refine g_Vi (As := [.int p2]) (rest := [.int p1, .ref (ad 7)]) ⟨hx, hb, hml, hown, hts⟩ (k_X12_readNumber hq12) (cwV 1 hts gX12_readSpan_X12_readNumber rfl rfl rfl (by decide +kernel) ⟨Nat.le_of_ble_eq_true rfl, Nat.le_of_ble_eq_true rfl⟩) STR_ok hst hK hw rfl eR_c0 rfl rfl hl.1 rfl (Nat.le_of_ble_eq_true rfl) dX12_readSpan_7 ⟨Nat.zero_le _, Nat.zero_le _⟩ (fun H locs hw => ?_)
  have hw : Wo D ad (Aw ad 19 s.heap.size) (eR ad y m_thrown m_taped m_size q12.2.1 q12.2.2.1 q12.2.2.2.1 q12.2.2.2.2.1 q12.2.2.2.2.2.1 q12.2.2.2.2.2.2.1 q12.2.2.2.2.2.2.2 m_happenings m_newHappenings m_heard m_outs m_bounds a_tape a_happened a_many a_sort a_one a_other a_low a_high a_begins a_out a_behind a_ahead a_most a_left a_far a_quarrel a_early a_earlyLast) s.heap H locs := hw
  obtain ⟨g13, hf⟩ := gIn_some hf
  refine g_iast hx hb hK hw 7 1 eR_c7 rfl g13 dX12_readSpan_10 (fun H locs hw => ?_)
  have hw : Wo D ad (Aw ad 19 s.heap.size) (eR ad y m_thrown m_taped m_size q12.2.1 q12.2.2.1 q12.2.2.2.1 q12.2.2.2.2.1 q12.2.2.2.2.2.1 q12.2.2.2.2.2.2.1 q12.2.2.2.2.2.2.2 m_happenings m_newHappenings m_heard m_outs m_bounds a_tape a_happened a_many a_sort a_one a_other (upd a_low (Int32.toNatClampNeg p1) q12.1) a_high a_begins a_out a_behind a_ahead a_most a_left a_far a_quarrel a_early a_earlyLast) s.heap H locs := hw
  refine lv_aload_n hx hb dX12_readSpan_11 rfl (lv_at hl 0 rfl) ?_
  refine g_get hx hb hts i_X12 hown hK hw 0 eR_c0 rfl 18 (by decide) L_29 (fun _ h => h) rfl dX12_readSpan_12 ?_
  refine lv_iload_n hx hb dX12_readSpan_15 rfl (lv_at hl 1 rfl) ?_
  obtain ⟨g14, hf⟩ := gIn_some hf
  refine g_iald hx hb hK hw 7 1 eR_c7 rfl g14 dX12_readSpan_16 ?_
  refine lv_iconst (v := (-1)) hx hb dX12_readSpan_17 (by decide) ?_
  refine lv_icmp_ne (tgt := 23) hx hb dX12_readSpan_18 (by decide) (fun c15 => ?_) (fun c15 => ?_)
  · have hf := it_n c15 hf
    refine lv_iload_n hx hb dX12_readSpan_23 rfl (lv_at hl 3 rfl) ?_
    refine lv_if_ne (tgt := 39) hx hb dX12_readSpan_24 (by decide) (fun c16 => ?_) (fun c16 => ?_)
    · have hf := it_n c16 hf
      exact kb_X12_readSpan_b39 C0 hf hw (lv_sub hl [0, 1] rfl)
    · have hf := it_p c16 hf
      refine lv_aload_n hx hb dX12_readSpan_27 rfl (lv_at hl 0 rfl) ?_
      refine va_gets hx hb (STR_get (n := "TO") (v := 555) (by decide) hst) hw.2.2 hown L_126 (fun _ h => h) dX12_readSpan_28 ?_
      obtain ⟨q27, hq27, hf⟩ := bd hf
      refine g_Vi (As := [.long 555]) (rest := []) ⟨hx, hb, hml, hown, hts⟩ (k_X12_isKey hq27) (cwV 1 hts gX12_readSpan_X12_isKey rfl rfl rfl (by decide +kernel) ⟨Nat.le_of_ble_eq_true rfl, Nat.le_of_ble_eq_true rfl⟩) STR_ok hst hK hw rfl eR_c0 rfl rfl hl.1 rfl (Nat.le_of_ble_eq_true rfl) dX12_readSpan_31 ⟨Nat.zero_le _, Nat.zero_le _⟩ (fun H locs hw => ?_)
      refine lv_if_ne (tgt := 39) hx hb dX12_readSpan_34 (by decide) (fun c28 => ?_) (fun c28 => ?_)
      · have hf := it_n c28 hf
        exact kb_X12_readSpan_b39 C0 hf hw (lv_sub hl [0, 1] rfl)
      · have hf := it_p c28 hf
        refine lv_iconst (v := 1) hx hb dX12_readSpan_37 (by decide) ?_
        obtain rfl := so hf
        exact W.zret (v := 1) hx hb hr rfl (fun t ht _ => g_end hw t ht) hw.2.2.2.2 dX12_readSpan_38
  · have hf := it_p c15 hf
    refine lv_iconst (v := 0) hx hb dX12_readSpan_21 (by decide) ?_
    obtain rfl := so hf
    exact W.zret (v := 0) hx hb hr rfl (fun t ht _ => g_end hw t ht) hw.2.2.2.2 dX12_readSpan_22
set_option maxHeartbeats 4000000 in
theorem k_X12_readSpan {l : Launch} {D : va_G} {ad : Nat → Nat} {y : Nat → ClassId} {m_thrown : Int32} {m_taped : Int32} {m_size : Int32} {m_to : Int32} {m_from : Int32} {m_kind : Int32} {m_number : Int32} {m_fault : Int32} {m_place : Int32} {m_name : Int64} {m_happenings : Int32} {m_newHappenings : Int32} {m_heard : Int32} {m_outs : Int32} {m_bounds : Int32} {a_tape : Nat → Int32} {a_happened : Nat → Int64} {a_many : Nat → Int32} {a_sort : Nat → Int32} {a_one : Nat → Int32} {a_other : Nat → Int32} {a_low : Nat → Int32} {a_high : Nat → Int32} {a_begins : Nat → Int32} {a_out : Nat → Int32} {a_behind : Nat → Int32} {a_ahead : Nat → Int32} {a_most : Nat → Int32} {a_left : Nat → Int32} {a_far : Nat → Int32} {a_quarrel : Nat → Int32} {a_early : Nat → Int32} {a_earlyLast : Nat → Int32} {p1 : Int32} {p2 : Int32} {p3 : Int32} {res : Int32 × Int32 × Int32 × Int32 × Int32 × Int32 × Int32 × Int64 × (Nat → Int32) × (Nat → Int32)} (hf : f_X12_readSpan m_size m_to m_from m_kind m_number m_fault m_place m_name a_tape a_low a_high p1 p2 p3 = some res) : CTi l yX12_readSpan wsX12_readSpan rm_X12_readSpan D ad 19 (tyL y) (STR ad) (eR ad y m_thrown m_taped m_size m_to m_from m_kind m_number m_fault m_place m_name m_happenings m_newHappenings m_heard m_outs m_bounds a_tape a_happened a_many a_sort a_one a_other a_low a_high a_begins a_out a_behind a_ahead a_most a_left a_far a_quarrel a_early a_earlyLast) (eR ad y m_thrown m_taped m_size res.2.1 res.2.2.1 res.2.2.2.1 res.2.2.2.2.1 res.2.2.2.2.2.1 res.2.2.2.2.2.2.1 res.2.2.2.2.2.2.2.1 m_happenings m_newHappenings m_heard m_outs m_bounds a_tape a_happened a_many a_sort a_one a_other res.2.2.2.2.2.2.2.2.1 res.2.2.2.2.2.2.2.2.2 a_begins a_out a_behind a_ahead a_most a_left a_far a_quarrel a_early a_earlyLast) [.ref (ad 0), .int p1, .int p2, .int p3] res.1 := by
  intro sz
  refine Met.ofW (cc := cX12_readSpan) (maxL := 4) (ret := (some .boolean)) (by decide) rfl ?_
  intro p e s m args below meth c s₁ B hml hv
  obtain ⟨rfl, hsz, hP, hK, hD0, hst⟩ := hv
  subst hsz
  have C0 : CXT wsX12_readSpan cX12_readSpan RX12 4 (some .boolean) D (tyL y) (STR ad) p s m ([.ref (ad 0), .int p1, .int p2, .int p3] : List Value).toArray meth c := ⟨B.exec, B.bytes, B.returns, hml, findClass_of_methodNamed B.named, atoms_spec (ws := wsX12_readSpan) B.pre, B.notSynchronized, hK, hst⟩
  have hw := g_start (n := 19) rfl hP hD0
  have hl := lv_entry ([.ref (ad 0), .int p1, .int p2, .int p3]) (n := 4) (Nat.le_of_ble_eq_true rfl)
  rw [lg_entry_eq]
  generalize (lg_sl ([.ref (ad 0), .int p1, .int p2, .int p3]) ++ List.replicate (4 - (lg_sl ([.ref (ad 0), .int p1, .int p2, .int p3])).length) Slot.unset).toArray = ls at hl ⊢
  have hl : lv_has ls 4 [(0, .ref (ad 0)), (1, .int p1), (2, .int p2), (3, .int p3)] := hl
  exact ke_X12_readSpan C0 hf hw hl
abbrev rm_X12_readSaying : Room := { frames := 5, cells := 0, slots := 0, locals := 111 }
abbrev QM_X12_readSaying (below : List Frame) (args : Array Value) (s : State) (D : va_G) (ad : Nat → Nat) (y : Nat → ClassId) (m_thrown : Int32) (m_taped : Int32) (m_size : Int32) (m_happenings : Int32) (m_heard : Int32) (m_outs : Int32) (m_bounds : Int32) (a_tape : Nat → Int32) (a_many : Nat → Int32) (a_out : Nat → Int32) (a_behind : Nat → Int32) (a_ahead : Nat → Int32) (a_most : Nat → Int32) (a_left : Nat → Int32) (a_far : Nat → Int32) (a_quarrel : Nat → Int32) (a_early : Nat → Int32) (a_earlyLast : Nat → Int32) (res : Int32 × Int32 × Int32 × Int32 × Int32 × Int32 × Int32 × Int64 × Int32 × (Nat → Int64) × (Nat → Int32) × (Nat → Int32) × (Nat → Int32) × (Nat → Int32) × (Nat → Int32) × (Nat → Int32)) : State → Prop := MQ below (va_Qi (fun x (_ : Unit) => x = res.1) (fun _ t => va_P D vwCl (wls ad (eR ad y m_thrown m_taped m_size res.2.1 res.2.2.1 res.2.2.2.1 res.2.2.2.2.1 res.2.2.2.2.2.1 res.2.2.2.2.2.2.1 res.2.2.2.2.2.2.2.1 m_happenings res.2.2.2.2.2.2.2.2.1 m_heard m_outs m_bounds a_tape res.2.2.2.2.2.2.2.2.2.1 a_many res.2.2.2.2.2.2.2.2.2.2.1 res.2.2.2.2.2.2.2.2.2.2.2.1 res.2.2.2.2.2.2.2.2.2.2.2.2.1 res.2.2.2.2.2.2.2.2.2.2.2.2.2.1 res.2.2.2.2.2.2.2.2.2.2.2.2.2.2.1 res.2.2.2.2.2.2.2.2.2.2.2.2.2.2.2 a_out a_behind a_ahead a_most a_left a_far a_quarrel a_early a_earlyLast)) t.heap) (Aw ad 19 s.heap.size)) args s 0 0 (Aw ad 19 s.heap.size)
set_option maxHeartbeats 4000000 in
set_option maxRecDepth 100000 in
theorem kb_X12_readSaying_b243 {p : Program} {l : Launch} {e : Env} {s : State} {m : MethodId} {args : Array Value} {below : List Frame} {meth : Method} {c : Code} {D : va_G} {ad : Nat → Nat} {y : Nat → ClassId} (C0 : CXT wsX12_readSaying cX12_readSaying RX12 2 (some .boolean) D (tyL y) (STR ad) p s m args meth c) {m_thrown : Int32} {m_taped : Int32} {m_size : Int32} {m_to : Int32} {m_from : Int32} {m_kind : Int32} {m_number : Int32} {m_fault : Int32} {m_place : Int32} {m_name : Int64} {m_happenings : Int32} {m_newHappenings : Int32} {m_heard : Int32} {m_outs : Int32} {m_bounds : Int32} {a_tape : Nat → Int32} {a_happened : Nat → Int64} {a_many : Nat → Int32} {a_sort : Nat → Int32} {a_one : Nat → Int32} {a_other : Nat → Int32} {a_low : Nat → Int32} {a_high : Nat → Int32} {a_begins : Nat → Int32} {a_out : Nat → Int32} {a_behind : Nat → Int32} {a_ahead : Nat → Int32} {a_most : Nat → Int32} {a_left : Nat → Int32} {a_far : Nat → Int32} {a_quarrel : Nat → Int32} {a_early : Nat → Int32} {a_earlyLast : Nat → Int32}  {w0 : Int32} {w1 : Int32} {w2 : Int32}  {res : Int32 × Int32 × Int32 × Int32 × Int32 × Int32 × Int32 × Int64 × Int32 × (Nat → Int64) × (Nat → Int32) × (Nat → Int32) × (Nat → Int32) × (Nat → Int32) × (Nat → Int32) × (Nat → Int32)} (hf : f_X12_readSaying_b243 m_size m_to m_from m_kind m_number m_fault m_place m_name m_newHappenings a_tape a_happened a_many a_sort a_one a_other a_low a_high a_begins w0 w1 w2 = some res) {H : Heap} {locs : List Loc} {ls : Array Slot} (hw : Wo D ad (Aw ad 19 s.heap.size) (eR ad y m_thrown m_taped m_size m_to m_from m_kind m_number m_fault m_place m_name m_happenings m_newHappenings m_heard m_outs m_bounds a_tape a_happened a_many a_sort a_one a_other a_low a_high a_begins a_out a_behind a_ahead a_most a_left a_far a_quarrel a_early a_earlyLast) s.heap H locs) (hl : lv_has ls 2 []) : W p l e rm_X12_readSaying s m args below meth c H locs 0 0 (QM_X12_readSaying below args s D ad y (m_thrown) (m_taped) (m_size) (m_happenings) (m_heard) (m_outs) (m_bounds) (a_tape) (a_many) (a_out) (a_behind) (a_ahead) (a_most) (a_left) (a_far) (a_quarrel) (a_early) (a_earlyLast) res) (F0 m 243 ls [.int w0, .int w1, .int w2, .ref (ad 0)]) := by
  obtain ⟨hx, hb, hr, hml, hown, hts, hlocks, hK, hst⟩ := id C0
  unfold f_X12_readSaying_b243 at hf
  obtain ⟨q70, hq70, hf⟩ := bd hf
  refine g_Vi (As := [.int w2, .int w1, .int w0]) (rest := []) ⟨hx, hb, hml, hown, hts⟩ (k_X12_readSpan hq70) (cwV 3 hts gX12_readSaying_X12_readSpan rfl rfl rfl (by decide +kernel) ⟨Nat.le_of_ble_eq_true rfl, Nat.le_of_ble_eq_true rfl⟩) STR_ok hst hK hw rfl eR_c0 rfl rfl hl.1 rfl (Nat.le_of_ble_eq_true rfl) dX12_readSaying_243 ⟨Nat.zero_le _, Nat.zero_le _⟩ (fun H locs hw => ?_)
  have hw : Wo D ad (Aw ad 19 s.heap.size) (eR ad y m_thrown m_taped m_size q70.2.1 q70.2.2.1 q70.2.2.2.1 q70.2.2.2.2.1 q70.2.2.2.2.2.1 q70.2.2.2.2.2.2.1 q70.2.2.2.2.2.2.2.1 m_happenings m_newHappenings m_heard m_outs m_bounds a_tape a_happened a_many a_sort a_one a_other q70.2.2.2.2.2.2.2.2.1 q70.2.2.2.2.2.2.2.2.2 a_begins a_out a_behind a_ahead a_most a_left a_far a_quarrel a_early a_earlyLast) s.heap H locs := hw
  obtain ⟨g71, hf⟩ := gB_some hf
  obtain rfl := so hf
  exact W.zret (v := q70.1) hx hb hr (gB_n g71) (fun t ht _ => g_end hw t ht) hw.2.2.2.2 dX12_readSaying_246
set_option maxHeartbeats 4000000 in
set_option maxRecDepth 100000 in
theorem kb_X12_readSaying_b225 {p : Program} {l : Launch} {e : Env} {s : State} {m : MethodId} {args : Array Value} {below : List Frame} {meth : Method} {c : Code} {D : va_G} {ad : Nat → Nat} {y : Nat → ClassId} (C0 : CXT wsX12_readSaying cX12_readSaying RX12 2 (some .boolean) D (tyL y) (STR ad) p s m args meth c) {m_thrown : Int32} {m_taped : Int32} {m_size : Int32} {m_to : Int32} {m_from : Int32} {m_kind : Int32} {m_number : Int32} {m_fault : Int32} {m_place : Int32} {m_name : Int64} {m_happenings : Int32} {m_newHappenings : Int32} {m_heard : Int32} {m_outs : Int32} {m_bounds : Int32} {a_tape : Nat → Int32} {a_happened : Nat → Int64} {a_many : Nat → Int32} {a_sort : Nat → Int32} {a_one : Nat → Int32} {a_other : Nat → Int32} {a_low : Nat → Int32} {a_high : Nat → Int32} {a_begins : Nat → Int32} {a_out : Nat → Int32} {a_behind : Nat → Int32} {a_ahead : Nat → Int32} {a_most : Nat → Int32} {a_left : Nat → Int32} {a_far : Nat → Int32} {a_quarrel : Nat → Int32} {a_early : Nat → Int32} {a_earlyLast : Nat → Int32} {u1 : Int32}   {res : Int32 × Int32 × Int32 × Int32 × Int32 × Int32 × Int32 × Int64 × Int32 × (Nat → Int64) × (Nat → Int32) × (Nat → Int32) × (Nat → Int32) × (Nat → Int32) × (Nat → Int32) × (Nat → Int32)} (hf : f_X12_readSaying_b225 m_size m_to m_from m_kind m_number m_fault m_place m_name m_newHappenings a_tape a_happened a_many a_sort a_one a_other a_low a_high a_begins u1 = some res) {H : Heap} {locs : List Loc} {ls : Array Slot} (hw : Wo D ad (Aw ad 19 s.heap.size) (eR ad y m_thrown m_taped m_size m_to m_from m_kind m_number m_fault m_place m_name m_happenings m_newHappenings m_heard m_outs m_bounds a_tape a_happened a_many a_sort a_one a_other a_low a_high a_begins a_out a_behind a_ahead a_most a_left a_far a_quarrel a_early a_earlyLast) s.heap H locs) (hl : lv_has ls 2 [(0, .ref (ad 0)), (1, .int u1)]) : W p l e rm_X12_readSaying s m args below meth c H locs 0 0 (QM_X12_readSaying below args s D ad y (m_thrown) (m_taped) (m_size) (m_happenings) (m_heard) (m_outs) (m_bounds) (a_tape) (a_many) (a_out) (a_behind) (a_ahead) (a_most) (a_left) (a_far) (a_quarrel) (a_early) (a_earlyLast) res) (F0 m 225 ls []) := by
  obtain ⟨hx, hb, hr, hml, hown, hts, hlocks, hK, hst⟩ := id C0
  have i_X12 : ∀ w ∈ u_ws RX12 TX12 33, w ∈ wsX12_readSaying := by decide +kernel
  have L_20 := hts (.fieldLink RX12 20 "CaseOrderModel" "sort" "[I") (by decide +kernel)
  unfold f_X12_readSaying_b225 at hf
  refine lv_aload_n hx hb dX12_readSaying_225 rfl (lv_at hl 0 rfl) ?_
  refine lv_iload_n hx hb dX12_readSaying_226 rfl (lv_at hl 1 rfl) ?_
  refine lv_iconst (v := 0) hx hb dX12_readSaying_227 (by decide) ?_
  refine lv_aload_n hx hb dX12_readSaying_228 rfl (lv_at hl 0 rfl) ?_
  refine g_get hx hb hts i_X12 hown hK hw 0 eR_c0 rfl 15 (by decide) L_20 (fun _ h => h) rfl dX12_readSaying_229 ?_
  refine lv_iload_n hx hb dX12_readSaying_232 rfl (lv_at hl 1 rfl) ?_
  obtain ⟨g68, hf⟩ := gIn_some hf
  refine g_iald hx hb hK hw 4 1 eR_c4 rfl g68 dX12_readSaying_233 ?_
  refine lv_iconst (v := 1) hx hb dX12_readSaying_234 (by decide) ?_
  refine lv_icmp_ne (tgt := 242) hx hb dX12_readSaying_235 (by decide) (fun c69 => ?_) (fun c69 => ?_)
  · have hf := it_n c69 hf
    refine lv_iconst (v := 0) hx hb dX12_readSaying_242 (by decide) ?_
    exact kb_X12_readSaying_b243 C0 hf hw (lv_sub hl [] rfl)
  · have hf := it_p c69 hf
    refine lv_iconst (v := 1) hx hb dX12_readSaying_238 (by decide) ?_
    refine lv_goto (tgt := 243) hx hb dX12_readSaying_239 (by decide) ?_
    exact kb_X12_readSaying_b243 C0 hf hw (lv_sub hl [] rfl)
set_option maxHeartbeats 4000000 in
set_option maxRecDepth 100000 in
theorem kb_X12_readSaying_b184 {p : Program} {l : Launch} {e : Env} {s : State} {m : MethodId} {args : Array Value} {below : List Frame} {meth : Method} {c : Code} {D : va_G} {ad : Nat → Nat} {y : Nat → ClassId} (C0 : CXT wsX12_readSaying cX12_readSaying RX12 2 (some .boolean) D (tyL y) (STR ad) p s m args meth c) {m_thrown : Int32} {m_taped : Int32} {m_size : Int32} {m_to : Int32} {m_from : Int32} {m_kind : Int32} {m_number : Int32} {m_fault : Int32} {m_place : Int32} {m_name : Int64} {m_happenings : Int32} {m_newHappenings : Int32} {m_heard : Int32} {m_outs : Int32} {m_bounds : Int32} {a_tape : Nat → Int32} {a_happened : Nat → Int64} {a_many : Nat → Int32} {a_sort : Nat → Int32} {a_one : Nat → Int32} {a_other : Nat → Int32} {a_low : Nat → Int32} {a_high : Nat → Int32} {a_begins : Nat → Int32} {a_out : Nat → Int32} {a_behind : Nat → Int32} {a_ahead : Nat → Int32} {a_most : Nat → Int32} {a_left : Nat → Int32} {a_far : Nat → Int32} {a_quarrel : Nat → Int32} {a_early : Nat → Int32} {a_earlyLast : Nat → Int32} {u1 : Int32} {w0 : Int32} {w1 : Int32}  {res : Int32 × Int32 × Int32 × Int32 × Int32 × Int32 × Int32 × Int64 × Int32 × (Nat → Int64) × (Nat → Int32) × (Nat → Int32) × (Nat → Int32) × (Nat → Int32) × (Nat → Int32) × (Nat → Int32)} (hf : f_X12_readSaying_b184 m_size m_to m_from m_kind m_number m_fault m_place m_name m_newHappenings a_tape a_happened a_many a_sort a_one a_other a_low a_high a_begins u1 w0 w1 = some res) {H : Heap} {locs : List Loc} {ls : Array Slot} (hw : Wo D ad (Aw ad 19 s.heap.size) (eR ad y m_thrown m_taped m_size m_to m_from m_kind m_number m_fault m_place m_name m_happenings m_newHappenings m_heard m_outs m_bounds a_tape a_happened a_many a_sort a_one a_other a_low a_high a_begins a_out a_behind a_ahead a_most a_left a_far a_quarrel a_early a_earlyLast) s.heap H locs) (hl : lv_has ls 2 [(0, .ref (ad 0)), (1, .int u1)]) : W p l e rm_X12_readSaying s m args below meth c H locs 0 0 (QM_X12_readSaying below args s D ad y (m_thrown) (m_taped) (m_size) (m_happenings) (m_heard) (m_outs) (m_bounds) (a_tape) (a_many) (a_out) (a_behind) (a_ahead) (a_most) (a_left) (a_far) (a_quarrel) (a_early) (a_earlyLast) res) (F0 m 184 ls [.int w0, .int w1, .ref (ad 4)]) := by
  obtain ⟨hx, hb, hr, hml, hown, hts, hlocks, hK, hst⟩ := id C0
  have i_X12 : ∀ w ∈ u_ws RX12 TX12 33, w ∈ wsX12_readSaying := by decide +kernel
  have L_20 := hts (.fieldLink RX12 20 "CaseOrderModel" "sort" "[I") (by decide +kernel)
  have L_26 := hts (.fieldLink RX12 26 "CaseOrderModel" "other" "[I") (by decide +kernel)
  have L_23 := hts (.fieldLink RX12 23 "CaseOrderModel" "one" "[I") (by decide +kernel)
  have L_129 := hts (.fieldLink RX12 129 "CaseOrderModel" "BY" "J") (by decide +kernel)
  have L_29 := hts (.fieldLink RX12 29 "CaseOrderModel" "low" "[I") (by decide +kernel)
  unfold f_X12_readSaying_b184 at hf
  obtain ⟨g62, hf⟩ := gIn_some hf
  refine g_iast hx hb hK hw 4 1 eR_c4 rfl g62 dX12_readSaying_184 (fun H locs hw => ?_)
  have hw : Wo D ad (Aw ad 19 s.heap.size) (eR ad y m_thrown m_taped m_size m_to m_from m_kind m_number m_fault m_place m_name m_happenings m_newHappenings m_heard m_outs m_bounds a_tape a_happened a_many (upd a_sort (Int32.toNatClampNeg w1) w0) a_one a_other a_low a_high a_begins a_out a_behind a_ahead a_most a_left a_far a_quarrel a_early a_earlyLast) s.heap H locs := hw
  refine lv_aload_n hx hb dX12_readSaying_185 rfl (lv_at hl 0 rfl) ?_
  refine g_get hx hb hts i_X12 hown hK hw 0 eR_c0 rfl 15 (by decide) L_20 (fun _ h => h) rfl dX12_readSaying_186 ?_
  refine lv_iload_n hx hb dX12_readSaying_189 rfl (lv_at hl 1 rfl) ?_
  obtain ⟨g63, hf⟩ := gIn_some hf
  refine g_iald hx hb hK hw 4 1 eR_c4 rfl g63 dX12_readSaying_190 ?_
  refine lv_iconst (v := (-1)) hx hb dX12_readSaying_191 (by decide) ?_
  refine lv_icmp_ne (tgt := 201) hx hb dX12_readSaying_192 (by decide) (fun c64 => ?_) (fun c64 => ?_)
  · have hf := it_n c64 hf
    refine lv_aload_n hx hb dX12_readSaying_201 rfl (lv_at hl 0 rfl) ?_
    obtain ⟨q65, hq65, hf⟩ := bd hf
    refine g_Vv (As := []) (rest := []) ⟨hx, hb, hml, hown, hts⟩ (k_X12_go hq65) (cwV 0 hts gX12_readSaying_X12_go rfl rfl rfl (by decide +kernel) ⟨Nat.le_of_ble_eq_true rfl, Nat.le_of_ble_eq_true rfl⟩) STR_ok hst hK hw rfl eR_c0 rfl rfl hl.1 rfl (Nat.le_of_ble_eq_true rfl) dX12_readSaying_202 ⟨Nat.zero_le _, Nat.zero_le _⟩ (fun H locs hw => ?_)
    have hw : Wo D ad (Aw ad 19 s.heap.size) (eR ad y m_thrown m_taped m_size q65.1 q65.2.1 q65.2.2.1 q65.2.2.2.1 m_fault m_place q65.2.2.2.2 m_happenings m_newHappenings m_heard m_outs m_bounds a_tape a_happened a_many (upd a_sort (Int32.toNatClampNeg w1) w0) a_one a_other a_low a_high a_begins a_out a_behind a_ahead a_most a_left a_far a_quarrel a_early a_earlyLast) s.heap H locs := hw
    refine lv_aload_n hx hb dX12_readSaying_205 rfl (lv_at hl 0 rfl) ?_
    refine g_get hx hb hts i_X12 hown hK hw 0 eR_c0 rfl 15 (by decide) L_20 (fun _ h => h) rfl dX12_readSaying_206 ?_
    refine lv_iload_n hx hb dX12_readSaying_209 rfl (lv_at hl 1 rfl) ?_
    obtain ⟨g66, hf⟩ := gIn_some hf
    refine g_iald hx hb hK hw 4 1 eR_c4 rfl g66 dX12_readSaying_210 ?_
    refine lv_iconst (v := 1) hx hb dX12_readSaying_211 (by decide) ?_
    refine lv_icmp_eq (tgt := 225) hx hb dX12_readSaying_212 (by decide) (fun c67 => ?_) (fun c67 => ?_)
    · have hf := it_p c67 hf
      exact kb_X12_readSaying_b225 C0 hf hw (lv_sub hl [0, 1] rfl)
    · have hf := it_n c67 hf
      refine lv_aload_n hx hb dX12_readSaying_215 rfl (lv_at hl 0 rfl) ?_
      refine g_get hx hb hts i_X12 hown hK hw 0 eR_c0 rfl 15 (by decide) L_20 (fun _ h => h) rfl dX12_readSaying_216 ?_
      refine lv_iload_n hx hb dX12_readSaying_219 rfl (lv_at hl 1 rfl) ?_
      obtain ⟨g72, hf⟩ := gIn_some hf
      refine g_iald hx hb hK hw 4 1 eR_c4 rfl g72 dX12_readSaying_220 ?_
      refine lv_iconst (v := 4) hx hb dX12_readSaying_221 (by decide) ?_
      refine lv_icmp_ne (tgt := 247) hx hb dX12_readSaying_222 (by decide) (fun c73 => ?_) (fun c73 => ?_)
      · have hf := it_n c73 hf
        refine lv_aload_n hx hb dX12_readSaying_247 rfl (lv_at hl 0 rfl) ?_
        refine g_get hx hb hts i_X12 hown hK hw 0 eR_c0 rfl 15 (by decide) L_20 (fun _ h => h) rfl dX12_readSaying_248 ?_
        refine lv_iload_n hx hb dX12_readSaying_251 rfl (lv_at hl 1 rfl) ?_
        obtain ⟨g74, hf⟩ := gIn_some hf
        refine g_iald hx hb hK hw 4 1 eR_c4 rfl g74 dX12_readSaying_252 ?_
        refine lv_iconst (v := 4) hx hb dX12_readSaying_253 (by decide) ?_
        refine lv_icmp_ge (tgt := 284) hx hb dX12_readSaying_254 (by decide) (fun c75 => ?_) (fun c75 => ?_)
        · have hf := it_p c75 hf
          refine lv_aload_n hx hb dX12_readSaying_284 rfl (lv_at hl 0 rfl) ?_
          refine g_get hx hb hts i_X12 hown hK hw 0 eR_c0 rfl 17 (by decide) L_26 (fun _ h => h) rfl dX12_readSaying_285 ?_
          refine lv_iload_n hx hb dX12_readSaying_288 rfl (lv_at hl 1 rfl) ?_
          refine lv_aload_n hx hb dX12_readSaying_289 rfl (lv_at hl 0 rfl) ?_
          refine lv_aload_n hx hb dX12_readSaying_290 rfl (lv_at hl 0 rfl) ?_
          refine g_get hx hb hts i_X12 hown hK hw 0 eR_c0 rfl 16 (by decide) L_23 (fun _ h => h) rfl dX12_readSaying_291 ?_
          refine lv_iload_n hx hb dX12_readSaying_294 rfl (lv_at hl 1 rfl) ?_
          obtain ⟨g76, hf⟩ := gIn_some hf
          refine g_iald hx hb hK hw 5 1 eR_c5 rfl g76 dX12_readSaying_295 ?_
          obtain ⟨q77, hq77, hf⟩ := bd hf
          refine g_Vi (As := [.int (a_one (Int32.toNatClampNeg u1))]) (rest := [.int u1, .ref (ad 6)]) ⟨hx, hb, hml, hown, hts⟩ (k_X12_readHappening hq77) (cwV 1 hts gX12_readSaying_X12_readHappening rfl rfl rfl (by decide +kernel) ⟨Nat.le_of_ble_eq_true rfl, Nat.le_of_ble_eq_true rfl⟩) STR_ok hst hK hw rfl eR_c0 rfl rfl hl.1 rfl (Nat.le_of_ble_eq_true rfl) dX12_readSaying_296 ⟨Nat.zero_le _, Nat.zero_le _⟩ (fun H locs hw => ?_)
          have hw : Wo D ad (Aw ad 19 s.heap.size) (eR ad y m_thrown m_taped m_size q77.2.1 q77.2.2.1 q77.2.2.2.1 q77.2.2.2.2.1 q77.2.2.2.2.2.1 q77.2.2.2.2.2.2.1 q77.2.2.2.2.2.2.2.1 m_happenings q77.2.2.2.2.2.2.2.2.1 m_heard m_outs m_bounds a_tape q77.2.2.2.2.2.2.2.2.2 a_many (upd a_sort (Int32.toNatClampNeg w1) w0) a_one a_other a_low a_high a_begins a_out a_behind a_ahead a_most a_left a_far a_quarrel a_early a_earlyLast) s.heap H locs := hw
          obtain ⟨g78, hf⟩ := gIn_some hf
          refine g_iast hx hb hK hw 6 1 eR_c6 rfl g78 dX12_readSaying_299 (fun H locs hw => ?_)
          have hw : Wo D ad (Aw ad 19 s.heap.size) (eR ad y m_thrown m_taped m_size q77.2.1 q77.2.2.1 q77.2.2.2.1 q77.2.2.2.2.1 q77.2.2.2.2.2.1 q77.2.2.2.2.2.2.1 q77.2.2.2.2.2.2.2.1 m_happenings q77.2.2.2.2.2.2.2.2.1 m_heard m_outs m_bounds a_tape q77.2.2.2.2.2.2.2.2.2 a_many (upd a_sort (Int32.toNatClampNeg w1) w0) a_one (upd a_other (Int32.toNatClampNeg u1) q77.1) a_low a_high a_begins a_out a_behind a_ahead a_most a_left a_far a_quarrel a_early a_earlyLast) s.heap H locs := hw
          refine lv_aload_n hx hb dX12_readSaying_300 rfl (lv_at hl 0 rfl) ?_
          refine g_get hx hb hts i_X12 hown hK hw 0 eR_c0 rfl 17 (by decide) L_26 (fun _ h => h) rfl dX12_readSaying_301 ?_
          refine lv_iload_n hx hb dX12_readSaying_304 rfl (lv_at hl 1 rfl) ?_
          obtain ⟨g79, hf⟩ := gIn_some hf
          refine g_iald hx hb hK hw 6 1 eR_c6 rfl g79 dX12_readSaying_305 ?_
          refine lv_iconst (v := (-1)) hx hb dX12_readSaying_306 (by decide) ?_
          refine lv_icmp_ne (tgt := 312) hx hb dX12_readSaying_307 (by decide) (fun c80 => ?_) (fun c80 => ?_)
          · have hf := it_n c80 hf
            refine lv_aload_n hx hb dX12_readSaying_312 rfl (lv_at hl 0 rfl) ?_
            refine g_get hx hb hts i_X12 hown hK hw 0 eR_c0 rfl 15 (by decide) L_20 (fun _ h => h) rfl dX12_readSaying_313 ?_
            refine lv_iload_n hx hb dX12_readSaying_316 rfl (lv_at hl 1 rfl) ?_
            obtain ⟨g81, hf⟩ := gIn_some hf
            refine g_iald hx hb hK hw 4 1 eR_c4 rfl g81 dX12_readSaying_317 ?_
            refine lv_bipush (v := 6) hx hb dX12_readSaying_318 (by decide) ?_
            refine lv_icmp_eq (tgt := 333) hx hb dX12_readSaying_320 (by decide) (fun c82 => ?_) (fun c82 => ?_)
            · have hf := it_p c82 hf
              refine lv_iconst (v := 1) hx hb dX12_readSaying_333 (by decide) ?_
              obtain rfl := so hf
              exact W.zret (v := 1) hx hb hr rfl (fun t ht _ => g_end hw t ht) hw.2.2.2.2 dX12_readSaying_334
            · have hf := it_n c82 hf
              refine lv_aload_n hx hb dX12_readSaying_323 rfl (lv_at hl 0 rfl) ?_
              refine va_gets hx hb (STR_get (n := "BY") (v := 79) (by decide) hst) hw.2.2 hown L_129 (fun _ h => h) dX12_readSaying_324 ?_
              obtain ⟨q83, hq83, hf⟩ := bd hf
              refine g_Vi (As := [.long 79]) (rest := []) ⟨hx, hb, hml, hown, hts⟩ (k_X12_isKey hq83) (cwV 1 hts gX12_readSaying_X12_isKey rfl rfl rfl (by decide +kernel) ⟨Nat.le_of_ble_eq_true rfl, Nat.le_of_ble_eq_true rfl⟩) STR_ok hst hK hw rfl eR_c0 rfl rfl hl.1 rfl (Nat.le_of_ble_eq_true rfl) dX12_readSaying_327 ⟨Nat.zero_le _, Nat.zero_le _⟩ (fun H locs hw => ?_)
              refine lv_if_ne (tgt := 335) hx hb dX12_readSaying_330 (by decide) (fun c84 => ?_) (fun c84 => ?_)
              · have hf := it_n c84 hf
                refine lv_aload_n hx hb dX12_readSaying_335 rfl (lv_at hl 0 rfl) ?_
                obtain ⟨q85, hq85, hf⟩ := bd hf
                refine g_Vv (As := []) (rest := []) ⟨hx, hb, hml, hown, hts⟩ (k_X12_go hq85) (cwV 0 hts gX12_readSaying_X12_go rfl rfl rfl (by decide +kernel) ⟨Nat.le_of_ble_eq_true rfl, Nat.le_of_ble_eq_true rfl⟩) STR_ok hst hK hw rfl eR_c0 rfl rfl hl.1 rfl (Nat.le_of_ble_eq_true rfl) dX12_readSaying_336 ⟨Nat.zero_le _, Nat.zero_le _⟩ (fun H locs hw => ?_)
                have hw : Wo D ad (Aw ad 19 s.heap.size) (eR ad y m_thrown m_taped m_size q85.1 q85.2.1 q85.2.2.1 q85.2.2.2.1 q77.2.2.2.2.2.1 q77.2.2.2.2.2.2.1 q85.2.2.2.2 m_happenings q77.2.2.2.2.2.2.2.2.1 m_heard m_outs m_bounds a_tape q77.2.2.2.2.2.2.2.2.2 a_many (upd a_sort (Int32.toNatClampNeg w1) w0) a_one (upd a_other (Int32.toNatClampNeg u1) q77.1) a_low a_high a_begins a_out a_behind a_ahead a_most a_left a_far a_quarrel a_early a_earlyLast) s.heap H locs := hw
                refine lv_aload_n hx hb dX12_readSaying_339 rfl (lv_at hl 0 rfl) ?_
                refine lv_iload_n hx hb dX12_readSaying_340 rfl (lv_at hl 1 rfl) ?_
                refine lv_iconst (v := 1) hx hb dX12_readSaying_341 (by decide) ?_
                refine lv_iconst (v := 0) hx hb dX12_readSaying_342 (by decide) ?_
                obtain ⟨q86, hq86, hf⟩ := bd hf
                refine g_Vi (As := [.int u1, .int 1, .int 0]) (rest := []) ⟨hx, hb, hml, hown, hts⟩ (k_X12_readSpan hq86) (cwV 3 hts gX12_readSaying_X12_readSpan rfl rfl rfl (by decide +kernel) ⟨Nat.le_of_ble_eq_true rfl, Nat.le_of_ble_eq_true rfl⟩) STR_ok hst hK hw rfl eR_c0 rfl rfl hl.1 rfl (Nat.le_of_ble_eq_true rfl) dX12_readSaying_343 ⟨Nat.zero_le _, Nat.zero_le _⟩ (fun H locs hw => ?_)
                have hw : Wo D ad (Aw ad 19 s.heap.size) (eR ad y m_thrown m_taped m_size q86.2.1 q86.2.2.1 q86.2.2.2.1 q86.2.2.2.2.1 q86.2.2.2.2.2.1 q86.2.2.2.2.2.2.1 q86.2.2.2.2.2.2.2.1 m_happenings q77.2.2.2.2.2.2.2.2.1 m_heard m_outs m_bounds a_tape q77.2.2.2.2.2.2.2.2.2 a_many (upd a_sort (Int32.toNatClampNeg w1) w0) a_one (upd a_other (Int32.toNatClampNeg u1) q77.1) q86.2.2.2.2.2.2.2.2.1 q86.2.2.2.2.2.2.2.2.2 a_begins a_out a_behind a_ahead a_most a_left a_far a_quarrel a_early a_earlyLast) s.heap H locs := hw
                obtain ⟨g87, hf⟩ := gB_some hf
                obtain rfl := so hf
                exact W.zret (v := q86.1) hx hb hr (gB_n g87) (fun t ht _ => g_end hw t ht) hw.2.2.2.2 dX12_readSaying_346
              · have hf := it_p c84 hf
                refine lv_iconst (v := 1) hx hb dX12_readSaying_333 (by decide) ?_
                obtain rfl := so hf
                exact W.zret (v := 1) hx hb hr rfl (fun t ht _ => g_end hw t ht) hw.2.2.2.2 dX12_readSaying_334
          · have hf := it_p c80 hf
            refine lv_iconst (v := 0) hx hb dX12_readSaying_310 (by decide) ?_
            obtain rfl := so hf
            exact W.zret (v := 0) hx hb hr rfl (fun t ht _ => g_end hw t ht) hw.2.2.2.2 dX12_readSaying_311
        · have hf := it_n c75 hf
          refine lv_aload_n hx hb dX12_readSaying_257 rfl (lv_at hl 0 rfl) ?_
          refine g_get hx hb hts i_X12 hown hK hw 0 eR_c0 rfl 18 (by decide) L_29 (fun _ h => h) rfl dX12_readSaying_258 ?_
          refine lv_iload_n hx hb dX12_readSaying_261 rfl (lv_at hl 1 rfl) ?_
          refine lv_aload_n hx hb dX12_readSaying_262 rfl (lv_at hl 0 rfl) ?_
          refine lv_iconst (v := 0) hx hb dX12_readSaying_263 (by decide) ?_
          obtain ⟨q88, hq88, hf⟩ := bd hf
          refine g_Vi (As := [.int 0]) (rest := [.int u1, .ref (ad 7)]) ⟨hx, hb, hml, hown, hts⟩ (k_X12_readNumber hq88) (cwV 1 hts gX12_readSaying_X12_readNumber rfl rfl rfl (by decide +kernel) ⟨Nat.le_of_ble_eq_true rfl, Nat.le_of_ble_eq_true rfl⟩) STR_ok hst hK hw rfl eR_c0 rfl rfl hl.1 rfl (Nat.le_of_ble_eq_true rfl) dX12_readSaying_264 ⟨Nat.zero_le _, Nat.zero_le _⟩ (fun H locs hw => ?_)
          have hw : Wo D ad (Aw ad 19 s.heap.size) (eR ad y m_thrown m_taped m_size q88.2.1 q88.2.2.1 q88.2.2.2.1 q88.2.2.2.2.1 q88.2.2.2.2.2.1 q88.2.2.2.2.2.2.1 q88.2.2.2.2.2.2.2 m_happenings m_newHappenings m_heard m_outs m_bounds a_tape a_happened a_many (upd a_sort (Int32.toNatClampNeg w1) w0) a_one a_other a_low a_high a_begins a_out a_behind a_ahead a_most a_left a_far a_quarrel a_early a_earlyLast) s.heap H locs := hw
          obtain ⟨g89, hf⟩ := gIn_some hf
          refine g_iast hx hb hK hw 7 1 eR_c7 rfl g89 dX12_readSaying_267 (fun H locs hw => ?_)
          have hw : Wo D ad (Aw ad 19 s.heap.size) (eR ad y m_thrown m_taped m_size q88.2.1 q88.2.2.1 q88.2.2.2.1 q88.2.2.2.2.1 q88.2.2.2.2.2.1 q88.2.2.2.2.2.2.1 q88.2.2.2.2.2.2.2 m_happenings m_newHappenings m_heard m_outs m_bounds a_tape a_happened a_many (upd a_sort (Int32.toNatClampNeg w1) w0) a_one a_other (upd a_low (Int32.toNatClampNeg u1) q88.1) a_high a_begins a_out a_behind a_ahead a_most a_left a_far a_quarrel a_early a_earlyLast) s.heap H locs := hw
          refine lv_aload_n hx hb dX12_readSaying_268 rfl (lv_at hl 0 rfl) ?_
          refine g_get hx hb hts i_X12 hown hK hw 0 eR_c0 rfl 18 (by decide) L_29 (fun _ h => h) rfl dX12_readSaying_269 ?_
          refine lv_iload_n hx hb dX12_readSaying_272 rfl (lv_at hl 1 rfl) ?_
          obtain ⟨g90, hf⟩ := gIn_some hf
          refine g_iald hx hb hK hw 7 1 eR_c7 rfl g90 dX12_readSaying_273 ?_
          refine lv_iconst (v := (-1)) hx hb dX12_readSaying_274 (by decide) ?_
          refine lv_icmp_eq (tgt := 282) hx hb dX12_readSaying_275 (by decide) (fun c91 => ?_) (fun c91 => ?_)
          · have hf := it_p c91 hf
            refine lv_iconst (v := 0) hx hb dX12_readSaying_282 (by decide) ?_
            obtain rfl := so hf
            exact W.zret (v := 0) hx hb hr rfl (fun t ht _ => g_end hw t ht) hw.2.2.2.2 dX12_readSaying_283
          · have hf := it_n c91 hf
            refine lv_iconst (v := 1) hx hb dX12_readSaying_278 (by decide) ?_
            refine lv_goto (tgt := 283) hx hb dX12_readSaying_279 (by decide) ?_
            obtain rfl := so hf
            exact W.zret (v := 1) hx hb hr rfl (fun t ht _ => g_end hw t ht) hw.2.2.2.2 dX12_readSaying_283
      · have hf := it_p c73 hf
        exact kb_X12_readSaying_b225 C0 hf hw (lv_sub hl [0, 1] rfl)
  · have hf := it_p c64 hf
    refine lv_aload_n hx hb dX12_readSaying_195 rfl (lv_at hl 0 rfl) ?_
    refine lv_iconst (v := 1) hx hb dX12_readSaying_196 (by decide) ?_
    obtain ⟨q92, hq92, hf⟩ := bd hf
    refine g_Vi (As := [.int 1]) (rest := []) ⟨hx, hb, hml, hown, hts⟩ (k_X12_bad hq92) (cwV 1 hts gX12_readSaying_X12_bad rfl rfl rfl (by decide +kernel) ⟨Nat.le_of_ble_eq_true rfl, Nat.le_of_ble_eq_true rfl⟩) STR_ok hst hK hw rfl eR_c0 rfl rfl hl.1 rfl (Nat.le_of_ble_eq_true rfl) dX12_readSaying_197 ⟨Nat.zero_le _, Nat.zero_le _⟩ (fun H locs hw => ?_)
    have hw : Wo D ad (Aw ad 19 s.heap.size) (eR ad y m_thrown m_taped m_size m_to m_from m_kind m_number q92.2.1 q92.2.2 m_name m_happenings m_newHappenings m_heard m_outs m_bounds a_tape a_happened a_many (upd a_sort (Int32.toNatClampNeg w1) w0) a_one a_other a_low a_high a_begins a_out a_behind a_ahead a_most a_left a_far a_quarrel a_early a_earlyLast) s.heap H locs := hw
    obtain ⟨g93, hf⟩ := gB_some hf
    obtain rfl := so hf
    exact W.zret (v := q92.1) hx hb hr (gB_n g93) (fun t ht _ => g_end hw t ht) hw.2.2.2.2 dX12_readSaying_200
set_option maxHeartbeats 4000000 in
set_option maxRecDepth 100000 in
theorem kb_X12_readSaying_b25 {p : Program} {l : Launch} {e : Env} {s : State} {m : MethodId} {args : Array Value} {below : List Frame} {meth : Method} {c : Code} {D : va_G} {ad : Nat → Nat} {y : Nat → ClassId} (C0 : CXT wsX12_readSaying cX12_readSaying RX12 2 (some .boolean) D (tyL y) (STR ad) p s m args meth c) {m_thrown : Int32} {m_taped : Int32} {m_size : Int32} {m_to : Int32} {m_from : Int32} {m_kind : Int32} {m_number : Int32} {m_fault : Int32} {m_place : Int32} {m_name : Int64} {m_happenings : Int32} {m_newHappenings : Int32} {m_heard : Int32} {m_outs : Int32} {m_bounds : Int32} {a_tape : Nat → Int32} {a_happened : Nat → Int64} {a_many : Nat → Int32} {a_sort : Nat → Int32} {a_one : Nat → Int32} {a_other : Nat → Int32} {a_low : Nat → Int32} {a_high : Nat → Int32} {a_begins : Nat → Int32} {a_out : Nat → Int32} {a_behind : Nat → Int32} {a_ahead : Nat → Int32} {a_most : Nat → Int32} {a_left : Nat → Int32} {a_far : Nat → Int32} {a_quarrel : Nat → Int32} {a_early : Nat → Int32} {a_earlyLast : Nat → Int32} {u1 : Int32}   {res : Int32 × Int32 × Int32 × Int32 × Int32 × Int32 × Int32 × Int64 × Int32 × (Nat → Int64) × (Nat → Int32) × (Nat → Int32) × (Nat → Int32) × (Nat → Int32) × (Nat → Int32) × (Nat → Int32)} (hf : f_X12_readSaying_b25 m_size m_to m_from m_kind m_number m_fault m_place m_name m_newHappenings a_tape a_happened a_many a_sort a_one a_other a_low a_high a_begins u1 = some res) {H : Heap} {locs : List Loc} {ls : Array Slot} (hw : Wo D ad (Aw ad 19 s.heap.size) (eR ad y m_thrown m_taped m_size m_to m_from m_kind m_number m_fault m_place m_name m_happenings m_newHappenings m_heard m_outs m_bounds a_tape a_happened a_many a_sort a_one a_other a_low a_high a_begins a_out a_behind a_ahead a_most a_left a_far a_quarrel a_early a_earlyLast) s.heap H locs) (hl : lv_has ls 2 [(0, .ref (ad 0)), (1, .int u1)]) : W p l e rm_X12_readSaying s m args below meth c H locs 0 0 (QM_X12_readSaying below args s D ad y (m_thrown) (m_taped) (m_size) (m_happenings) (m_heard) (m_outs) (m_bounds) (a_tape) (a_many) (a_out) (a_behind) (a_ahead) (a_most) (a_left) (a_far) (a_quarrel) (a_early) (a_earlyLast) res) (F0 m 25 ls []) := by
  obtain ⟨hx, hb, hr, hml, hown, hts, hlocks, hK, hst⟩ := id C0
  have i_X12 : ∀ w ∈ u_ws RX12 TX12 33, w ∈ wsX12_readSaying := by decide +kernel
  have L_35 := hts (.fieldLink RX12 35 "CaseOrderModel" "begins" "[I") (by decide +kernel)
  have L_89 := hts (.fieldLink RX12 89 "CaseOrderModel" "from" "I") (by decide +kernel)
  have L_23 := hts (.fieldLink RX12 23 "CaseOrderModel" "one" "[I") (by decide +kernel)
  have L_26 := hts (.fieldLink RX12 26 "CaseOrderModel" "other" "[I") (by decide +kernel)
  have L_29 := hts (.fieldLink RX12 29 "CaseOrderModel" "low" "[I") (by decide +kernel)
  have L_32 := hts (.fieldLink RX12 32 "CaseOrderModel" "high" "[I") (by decide +kernel)
  have L_20 := hts (.fieldLink RX12 20 "CaseOrderModel" "sort" "[I") (by decide +kernel)
  have L_120 := hts (.fieldLink RX12 120 "CaseOrderModel" "ON" "J") (by decide +kernel)
  have L_123 := hts (.fieldLink RX12 123 "CaseOrderModel" "FROM" "J") (by decide +kernel)
  have L_129 := hts (.fieldLink RX12 129 "CaseOrderModel" "BY" "J") (by decide +kernel)
  have L_132 := hts (.fieldLink RX12 132 "CaseOrderModel" "SINCE" "J") (by decide +kernel)
  have L_135 := hts (.fieldLink RX12 135 "CaseOrderModel" "LASTS" "J") (by decide +kernel)
  have L_138 := hts (.fieldLink RX12 138 "CaseOrderModel" "BEFORE" "J") (by decide +kernel)
  have L_141 := hts (.fieldLink RX12 141 "CaseOrderModel" "WHILE" "J") (by decide +kernel)
  unfold f_X12_readSaying_b25 at hf
  refine lv_aload_n hx hb dX12_readSaying_25 rfl (lv_at hl 0 rfl) ?_
  refine g_get hx hb hts i_X12 hown hK hw 0 eR_c0 rfl 20 (by decide) L_35 (fun _ h => h) rfl dX12_readSaying_26 ?_
  refine lv_iload_n hx hb dX12_readSaying_29 rfl (lv_at hl 1 rfl) ?_
  refine lv_aload_n hx hb dX12_readSaying_30 rfl (lv_at hl 0 rfl) ?_
  refine g_get hx hb hts i_X12 hown hK hw 0 eR_c0 rfl 5 (by decide) L_89 (fun _ h => h) rfl dX12_readSaying_31 ?_
  obtain ⟨g40, hf⟩ := gIn_some hf
  refine g_iast hx hb hK hw 9 1 eR_c9 rfl g40 dX12_readSaying_34 (fun H locs hw => ?_)
  have hw : Wo D ad (Aw ad 19 s.heap.size) (eR ad y m_thrown m_taped m_size m_to m_from m_kind m_number m_fault m_place m_name m_happenings m_newHappenings m_heard m_outs m_bounds a_tape a_happened a_many a_sort a_one a_other a_low a_high (upd a_begins (Int32.toNatClampNeg u1) m_from) a_out a_behind a_ahead a_most a_left a_far a_quarrel a_early a_earlyLast) s.heap H locs := hw
  refine lv_aload_n hx hb dX12_readSaying_35 rfl (lv_at hl 0 rfl) ?_
  refine g_get hx hb hts i_X12 hown hK hw 0 eR_c0 rfl 16 (by decide) L_23 (fun _ h => h) rfl dX12_readSaying_36 ?_
  refine lv_iload_n hx hb dX12_readSaying_39 rfl (lv_at hl 1 rfl) ?_
  refine lv_aload_n hx hb dX12_readSaying_40 rfl (lv_at hl 0 rfl) ?_
  refine lv_iconst (v := (-1)) hx hb dX12_readSaying_41 (by decide) ?_
  obtain ⟨q41, hq41, hf⟩ := bd hf
  refine g_Vi (As := [.int (-1)]) (rest := [.int u1, .ref (ad 5)]) ⟨hx, hb, hml, hown, hts⟩ (k_X12_readHappening hq41) (cwV 1 hts gX12_readSaying_X12_readHappening rfl rfl rfl (by decide +kernel) ⟨Nat.le_of_ble_eq_true rfl, Nat.le_of_ble_eq_true rfl⟩) STR_ok hst hK hw rfl eR_c0 rfl rfl hl.1 rfl (Nat.le_of_ble_eq_true rfl) dX12_readSaying_42 ⟨Nat.zero_le _, Nat.zero_le _⟩ (fun H locs hw => ?_)
  have hw : Wo D ad (Aw ad 19 s.heap.size) (eR ad y m_thrown m_taped m_size q41.2.1 q41.2.2.1 q41.2.2.2.1 q41.2.2.2.2.1 q41.2.2.2.2.2.1 q41.2.2.2.2.2.2.1 q41.2.2.2.2.2.2.2.1 m_happenings q41.2.2.2.2.2.2.2.2.1 m_heard m_outs m_bounds a_tape q41.2.2.2.2.2.2.2.2.2 a_many a_sort a_one a_other a_low a_high (upd a_begins (Int32.toNatClampNeg u1) m_from) a_out a_behind a_ahead a_most a_left a_far a_quarrel a_early a_earlyLast) s.heap H locs := hw
  obtain ⟨g42, hf⟩ := gIn_some hf
  refine g_iast hx hb hK hw 5 1 eR_c5 rfl g42 dX12_readSaying_45 (fun H locs hw => ?_)
  have hw : Wo D ad (Aw ad 19 s.heap.size) (eR ad y m_thrown m_taped m_size q41.2.1 q41.2.2.1 q41.2.2.2.1 q41.2.2.2.2.1 q41.2.2.2.2.2.1 q41.2.2.2.2.2.2.1 q41.2.2.2.2.2.2.2.1 m_happenings q41.2.2.2.2.2.2.2.2.1 m_heard m_outs m_bounds a_tape q41.2.2.2.2.2.2.2.2.2 a_many a_sort (upd a_one (Int32.toNatClampNeg u1) q41.1) a_other a_low a_high (upd a_begins (Int32.toNatClampNeg u1) m_from) a_out a_behind a_ahead a_most a_left a_far a_quarrel a_early a_earlyLast) s.heap H locs := hw
  refine lv_aload_n hx hb dX12_readSaying_46 rfl (lv_at hl 0 rfl) ?_
  refine g_get hx hb hts i_X12 hown hK hw 0 eR_c0 rfl 16 (by decide) L_23 (fun _ h => h) rfl dX12_readSaying_47 ?_
  refine lv_iload_n hx hb dX12_readSaying_50 rfl (lv_at hl 1 rfl) ?_
  obtain ⟨g43, hf⟩ := gIn_some hf
  refine g_iald hx hb hK hw 5 1 eR_c5 rfl g43 dX12_readSaying_51 ?_
  refine lv_iconst (v := (-1)) hx hb dX12_readSaying_52 (by decide) ?_
  refine lv_icmp_ne (tgt := 58) hx hb dX12_readSaying_53 (by decide) (fun c44 => ?_) (fun c44 => ?_)
  · have hf := it_n c44 hf
    refine lv_aload_n hx hb dX12_readSaying_58 rfl (lv_at hl 0 rfl) ?_
    refine g_get hx hb hts i_X12 hown hK hw 0 eR_c0 rfl 17 (by decide) L_26 (fun _ h => h) rfl dX12_readSaying_59 ?_
    refine lv_iload_n hx hb dX12_readSaying_62 rfl (lv_at hl 1 rfl) ?_
    refine lv_iconst (v := (-1)) hx hb dX12_readSaying_63 (by decide) ?_
    obtain ⟨g45, hf⟩ := gIn_some hf
    refine g_iast hx hb hK hw 6 1 eR_c6 rfl g45 dX12_readSaying_64 (fun H locs hw => ?_)
    have hw : Wo D ad (Aw ad 19 s.heap.size) (eR ad y m_thrown m_taped m_size q41.2.1 q41.2.2.1 q41.2.2.2.1 q41.2.2.2.2.1 q41.2.2.2.2.2.1 q41.2.2.2.2.2.2.1 q41.2.2.2.2.2.2.2.1 m_happenings q41.2.2.2.2.2.2.2.2.1 m_heard m_outs m_bounds a_tape q41.2.2.2.2.2.2.2.2.2 a_many a_sort (upd a_one (Int32.toNatClampNeg u1) q41.1) (upd a_other (Int32.toNatClampNeg u1) (-1)) a_low a_high (upd a_begins (Int32.toNatClampNeg u1) m_from) a_out a_behind a_ahead a_most a_left a_far a_quarrel a_early a_earlyLast) s.heap H locs := hw
    refine lv_aload_n hx hb dX12_readSaying_65 rfl (lv_at hl 0 rfl) ?_
    refine g_get hx hb hts i_X12 hown hK hw 0 eR_c0 rfl 18 (by decide) L_29 (fun _ h => h) rfl dX12_readSaying_66 ?_
    refine lv_iload_n hx hb dX12_readSaying_69 rfl (lv_at hl 1 rfl) ?_
    refine lv_iconst (v := (-1)) hx hb dX12_readSaying_70 (by decide) ?_
    obtain ⟨g46, hf⟩ := gIn_some hf
    refine g_iast hx hb hK hw 7 1 eR_c7 rfl g46 dX12_readSaying_71 (fun H locs hw => ?_)
    have hw : Wo D ad (Aw ad 19 s.heap.size) (eR ad y m_thrown m_taped m_size q41.2.1 q41.2.2.1 q41.2.2.2.1 q41.2.2.2.2.1 q41.2.2.2.2.2.1 q41.2.2.2.2.2.2.1 q41.2.2.2.2.2.2.2.1 m_happenings q41.2.2.2.2.2.2.2.2.1 m_heard m_outs m_bounds a_tape q41.2.2.2.2.2.2.2.2.2 a_many a_sort (upd a_one (Int32.toNatClampNeg u1) q41.1) (upd a_other (Int32.toNatClampNeg u1) (-1)) (upd a_low (Int32.toNatClampNeg u1) (-1)) a_high (upd a_begins (Int32.toNatClampNeg u1) m_from) a_out a_behind a_ahead a_most a_left a_far a_quarrel a_early a_earlyLast) s.heap H locs := hw
    refine lv_aload_n hx hb dX12_readSaying_72 rfl (lv_at hl 0 rfl) ?_
    refine g_get hx hb hts i_X12 hown hK hw 0 eR_c0 rfl 19 (by decide) L_32 (fun _ h => h) rfl dX12_readSaying_73 ?_
    refine lv_iload_n hx hb dX12_readSaying_76 rfl (lv_at hl 1 rfl) ?_
    refine lv_iconst (v := (-1)) hx hb dX12_readSaying_77 (by decide) ?_
    obtain ⟨g47, hf⟩ := gIn_some hf
    refine g_iast hx hb hK hw 8 1 eR_c8 rfl g47 dX12_readSaying_78 (fun H locs hw => ?_)
    have hw : Wo D ad (Aw ad 19 s.heap.size) (eR ad y m_thrown m_taped m_size q41.2.1 q41.2.2.1 q41.2.2.2.1 q41.2.2.2.2.1 q41.2.2.2.2.2.1 q41.2.2.2.2.2.2.1 q41.2.2.2.2.2.2.2.1 m_happenings q41.2.2.2.2.2.2.2.2.1 m_heard m_outs m_bounds a_tape q41.2.2.2.2.2.2.2.2.2 a_many a_sort (upd a_one (Int32.toNatClampNeg u1) q41.1) (upd a_other (Int32.toNatClampNeg u1) (-1)) (upd a_low (Int32.toNatClampNeg u1) (-1)) (upd a_high (Int32.toNatClampNeg u1) (-1)) (upd a_begins (Int32.toNatClampNeg u1) m_from) a_out a_behind a_ahead a_most a_left a_far a_quarrel a_early a_earlyLast) s.heap H locs := hw
    refine lv_aload_n hx hb dX12_readSaying_79 rfl (lv_at hl 0 rfl) ?_
    refine g_get hx hb hts i_X12 hown hK hw 0 eR_c0 rfl 15 (by decide) L_20 (fun _ h => h) rfl dX12_readSaying_80 ?_
    refine lv_iload_n hx hb dX12_readSaying_83 rfl (lv_at hl 1 rfl) ?_
    refine lv_aload_n hx hb dX12_readSaying_84 rfl (lv_at hl 0 rfl) ?_
    refine va_gets hx hb (STR_get (n := "ON") (v := 419) (by decide) hst) hw.2.2 hown L_120 (fun _ h => h) dX12_readSaying_85 ?_
    obtain ⟨q48, hq48, hf⟩ := bd hf
    refine g_Vi (As := [.long 419]) (rest := [.int u1, .ref (ad 4)]) ⟨hx, hb, hml, hown, hts⟩ (k_X12_isKey hq48) (cwV 1 hts gX12_readSaying_X12_isKey rfl rfl rfl (by decide +kernel) ⟨Nat.le_of_ble_eq_true rfl, Nat.le_of_ble_eq_true rfl⟩) STR_ok hst hK hw rfl eR_c0 rfl rfl hl.1 rfl (Nat.le_of_ble_eq_true rfl) dX12_readSaying_88 ⟨Nat.zero_le _, Nat.zero_le _⟩ (fun H locs hw => ?_)
    refine lv_if_eq (tgt := 98) hx hb dX12_readSaying_91 (by decide) (fun c49 => ?_) (fun c49 => ?_)
    · have hf := it_p c49 hf
      refine lv_aload_n hx hb dX12_readSaying_98 rfl (lv_at hl 0 rfl) ?_
      refine va_gets hx hb (STR_get (n := "FROM") (v := 131638) (by decide) hst) hw.2.2 hown L_123 (fun _ h => h) dX12_readSaying_99 ?_
      obtain ⟨q50, hq50, hf⟩ := bd hf
      refine g_Vi (As := [.long 131638]) (rest := [.int u1, .ref (ad 4)]) ⟨hx, hb, hml, hown, hts⟩ (k_X12_isKey hq50) (cwV 1 hts gX12_readSaying_X12_isKey rfl rfl rfl (by decide +kernel) ⟨Nat.le_of_ble_eq_true rfl, Nat.le_of_ble_eq_true rfl⟩) STR_ok hst hK hw rfl eR_c0 rfl rfl hl.1 rfl (Nat.le_of_ble_eq_true rfl) dX12_readSaying_102 ⟨Nat.zero_le _, Nat.zero_le _⟩ (fun H locs hw => ?_)
      refine lv_if_eq (tgt := 112) hx hb dX12_readSaying_105 (by decide) (fun c51 => ?_) (fun c51 => ?_)
      · have hf := it_p c51 hf
        refine lv_aload_n hx hb dX12_readSaying_112 rfl (lv_at hl 0 rfl) ?_
        refine va_gets hx hb (STR_get (n := "BY") (v := 79) (by decide) hst) hw.2.2 hown L_129 (fun _ h => h) dX12_readSaying_113 ?_
        obtain ⟨q52, hq52, hf⟩ := bd hf
        refine g_Vi (As := [.long 79]) (rest := [.int u1, .ref (ad 4)]) ⟨hx, hb, hml, hown, hts⟩ (k_X12_isKey hq52) (cwV 1 hts gX12_readSaying_X12_isKey rfl rfl rfl (by decide +kernel) ⟨Nat.le_of_ble_eq_true rfl, Nat.le_of_ble_eq_true rfl⟩) STR_ok hst hK hw rfl eR_c0 rfl rfl hl.1 rfl (Nat.le_of_ble_eq_true rfl) dX12_readSaying_116 ⟨Nat.zero_le _, Nat.zero_le _⟩ (fun H locs hw => ?_)
        refine lv_if_eq (tgt := 126) hx hb dX12_readSaying_119 (by decide) (fun c53 => ?_) (fun c53 => ?_)
        · have hf := it_p c53 hf
          refine lv_aload_n hx hb dX12_readSaying_126 rfl (lv_at hl 0 rfl) ?_
          refine va_gets hx hb (STR_get (n := "SINCE") (v := 10284818) (by decide) hst) hw.2.2 hown L_132 (fun _ h => h) dX12_readSaying_127 ?_
          obtain ⟨q54, hq54, hf⟩ := bd hf
          refine g_Vi (As := [.long 10284818]) (rest := [.int u1, .ref (ad 4)]) ⟨hx, hb, hml, hown, hts⟩ (k_X12_isKey hq54) (cwV 1 hts gX12_readSaying_X12_isKey rfl rfl rfl (by decide +kernel) ⟨Nat.le_of_ble_eq_true rfl, Nat.le_of_ble_eq_true rfl⟩) STR_ok hst hK hw rfl eR_c0 rfl rfl hl.1 rfl (Nat.le_of_ble_eq_true rfl) dX12_readSaying_130 ⟨Nat.zero_le _, Nat.zero_le _⟩ (fun H locs hw => ?_)
          refine lv_if_eq (tgt := 140) hx hb dX12_readSaying_133 (by decide) (fun c55 => ?_) (fun c55 => ?_)
          · have hf := it_p c55 hf
            refine lv_aload_n hx hb dX12_readSaying_140 rfl (lv_at hl 0 rfl) ?_
            refine va_gets hx hb (STR_get (n := "LASTS") (v := 6411385) (by decide) hst) hw.2.2 hown L_135 (fun _ h => h) dX12_readSaying_141 ?_
            obtain ⟨q56, hq56, hf⟩ := bd hf
            refine g_Vi (As := [.long 6411385]) (rest := [.int u1, .ref (ad 4)]) ⟨hx, hb, hml, hown, hts⟩ (k_X12_isKey hq56) (cwV 1 hts gX12_readSaying_X12_isKey rfl rfl rfl (by decide +kernel) ⟨Nat.le_of_ble_eq_true rfl, Nat.le_of_ble_eq_true rfl⟩) STR_ok hst hK hw rfl eR_c0 rfl rfl hl.1 rfl (Nat.le_of_ble_eq_true rfl) dX12_readSaying_144 ⟨Nat.zero_le _, Nat.zero_le _⟩ (fun H locs hw => ?_)
            refine lv_if_eq (tgt := 154) hx hb dX12_readSaying_147 (by decide) (fun c57 => ?_) (fun c57 => ?_)
            · have hf := it_p c57 hf
              refine lv_aload_n hx hb dX12_readSaying_154 rfl (lv_at hl 0 rfl) ?_
              refine va_gets hx hb (STR_get (n := "BEFORE") (v := 31484543) (by decide) hst) hw.2.2 hown L_138 (fun _ h => h) dX12_readSaying_155 ?_
              obtain ⟨q58, hq58, hf⟩ := bd hf
              refine g_Vi (As := [.long 31484543]) (rest := [.int u1, .ref (ad 4)]) ⟨hx, hb, hml, hown, hts⟩ (k_X12_isKey hq58) (cwV 1 hts gX12_readSaying_X12_isKey rfl rfl rfl (by decide +kernel) ⟨Nat.le_of_ble_eq_true rfl, Nat.le_of_ble_eq_true rfl⟩) STR_ok hst hK hw rfl eR_c0 rfl rfl hl.1 rfl (Nat.le_of_ble_eq_true rfl) dX12_readSaying_158 ⟨Nat.zero_le _, Nat.zero_le _⟩ (fun H locs hw => ?_)
              refine lv_if_eq (tgt := 168) hx hb dX12_readSaying_161 (by decide) (fun c59 => ?_) (fun c59 => ?_)
              · have hf := it_p c59 hf
                refine lv_aload_n hx hb dX12_readSaying_168 rfl (lv_at hl 0 rfl) ?_
                refine va_gets hx hb (STR_get (n := "WHILE") (v := 12387497) (by decide) hst) hw.2.2 hown L_141 (fun _ h => h) dX12_readSaying_169 ?_
                obtain ⟨q60, hq60, hf⟩ := bd hf
                refine g_Vi (As := [.long 12387497]) (rest := [.int u1, .ref (ad 4)]) ⟨hx, hb, hml, hown, hts⟩ (k_X12_isKey hq60) (cwV 1 hts gX12_readSaying_X12_isKey rfl rfl rfl (by decide +kernel) ⟨Nat.le_of_ble_eq_true rfl, Nat.le_of_ble_eq_true rfl⟩) STR_ok hst hK hw rfl eR_c0 rfl rfl hl.1 rfl (Nat.le_of_ble_eq_true rfl) dX12_readSaying_172 ⟨Nat.zero_le _, Nat.zero_le _⟩ (fun H locs hw => ?_)
                refine lv_if_eq (tgt := 183) hx hb dX12_readSaying_175 (by decide) (fun c61 => ?_) (fun c61 => ?_)
                · have hf := it_p c61 hf
                  refine lv_iconst (v := (-1)) hx hb dX12_readSaying_183 (by decide) ?_
                  exact kb_X12_readSaying_b184 C0 hf hw (lv_sub hl [0, 1] rfl)
                · have hf := it_n c61 hf
                  refine lv_bipush (v := 6) hx hb dX12_readSaying_178 (by decide) ?_
                  refine lv_goto (tgt := 184) hx hb dX12_readSaying_180 (by decide) ?_
                  exact kb_X12_readSaying_b184 C0 hf hw (lv_sub hl [0, 1] rfl)
              · have hf := it_n c59 hf
                refine lv_iconst (v := 5) hx hb dX12_readSaying_164 (by decide) ?_
                refine lv_goto (tgt := 184) hx hb dX12_readSaying_165 (by decide) ?_
                exact kb_X12_readSaying_b184 C0 hf hw (lv_sub hl [0, 1] rfl)
            · have hf := it_n c57 hf
              refine lv_iconst (v := 4) hx hb dX12_readSaying_150 (by decide) ?_
              refine lv_goto (tgt := 184) hx hb dX12_readSaying_151 (by decide) ?_
              exact kb_X12_readSaying_b184 C0 hf hw (lv_sub hl [0, 1] rfl)
          · have hf := it_n c55 hf
            refine lv_iconst (v := 3) hx hb dX12_readSaying_136 (by decide) ?_
            refine lv_goto (tgt := 184) hx hb dX12_readSaying_137 (by decide) ?_
            exact kb_X12_readSaying_b184 C0 hf hw (lv_sub hl [0, 1] rfl)
        · have hf := it_n c53 hf
          refine lv_iconst (v := 2) hx hb dX12_readSaying_122 (by decide) ?_
          refine lv_goto (tgt := 184) hx hb dX12_readSaying_123 (by decide) ?_
          exact kb_X12_readSaying_b184 C0 hf hw (lv_sub hl [0, 1] rfl)
      · have hf := it_n c51 hf
        refine lv_iconst (v := 1) hx hb dX12_readSaying_108 (by decide) ?_
        refine lv_goto (tgt := 184) hx hb dX12_readSaying_109 (by decide) ?_
        exact kb_X12_readSaying_b184 C0 hf hw (lv_sub hl [0, 1] rfl)
    · have hf := it_n c49 hf
      refine lv_iconst (v := 0) hx hb dX12_readSaying_94 (by decide) ?_
      refine lv_goto (tgt := 184) hx hb dX12_readSaying_95 (by decide) ?_
      exact kb_X12_readSaying_b184 C0 hf hw (lv_sub hl [0, 1] rfl)
  · have hf := it_p c44 hf
    refine lv_iconst (v := 0) hx hb dX12_readSaying_56 (by decide) ?_
    obtain rfl := so hf
    exact W.zret (v := 0) hx hb hr rfl (fun t ht _ => g_end hw t ht) hw.2.2.2.2 dX12_readSaying_57
set_option maxHeartbeats 4000000 in
set_option maxRecDepth 100000 in
theorem ke_X12_readSaying {p : Program} {l : Launch} {e : Env} {s : State} {m : MethodId} {args : Array Value} {below : List Frame} {meth : Method} {c : Code} {D : va_G} {ad : Nat → Nat} {y : Nat → ClassId} (C0 : CXT wsX12_readSaying cX12_readSaying RX12 2 (some .boolean) D (tyL y) (STR ad) p s m args meth c) {m_thrown : Int32} {m_taped : Int32} {m_size : Int32} {m_to : Int32} {m_from : Int32} {m_kind : Int32} {m_number : Int32} {m_fault : Int32} {m_place : Int32} {m_name : Int64} {m_happenings : Int32} {m_newHappenings : Int32} {m_heard : Int32} {m_outs : Int32} {m_bounds : Int32} {a_tape : Nat → Int32} {a_happened : Nat → Int64} {a_many : Nat → Int32} {a_sort : Nat → Int32} {a_one : Nat → Int32} {a_other : Nat → Int32} {a_low : Nat → Int32} {a_high : Nat → Int32} {a_begins : Nat → Int32} {a_out : Nat → Int32} {a_behind : Nat → Int32} {a_ahead : Nat → Int32} {a_most : Nat → Int32} {a_left : Nat → Int32} {a_far : Nat → Int32} {a_quarrel : Nat → Int32} {a_early : Nat → Int32} {a_earlyLast : Nat → Int32} {p1 : Int32} {res : Int32 × Int32 × Int32 × Int32 × Int32 × Int32 × Int32 × Int64 × Int32 × (Nat → Int64) × (Nat → Int32) × (Nat → Int32) × (Nat → Int32) × (Nat → Int32) × (Nat → Int32) × (Nat → Int32)} (hf : f_X12_readSaying m_size m_to m_from m_kind m_number m_fault m_place m_name m_newHappenings a_tape a_happened a_many a_sort a_one a_other a_low a_high a_begins p1 = some res) {H : Heap} {locs : List Loc} {ls : Array Slot} (hw : Wo D ad (Aw ad 19 s.heap.size) (eR ad y m_thrown m_taped m_size m_to m_from m_kind m_number m_fault m_place m_name m_happenings m_newHappenings m_heard m_outs m_bounds a_tape a_happened a_many a_sort a_one a_other a_low a_high a_begins a_out a_behind a_ahead a_most a_left a_far a_quarrel a_early a_earlyLast) s.heap H locs) (hl : lv_has ls 2 [(0, .ref (ad 0)), (1, .int p1)]) : W p l e rm_X12_readSaying s m args below meth c H locs 0 0 (QM_X12_readSaying below args s D ad y (m_thrown) (m_taped) (m_size) (m_happenings) (m_heard) (m_outs) (m_bounds) (a_tape) (a_many) (a_out) (a_behind) (a_ahead) (a_most) (a_left) (a_far) (a_quarrel) (a_early) (a_earlyLast) res) (F0 m 0 ls []) := by
  obtain ⟨hx, hb, hr, hml, hown, hts, hlocks, hK, hst⟩ := id C0
  have i_X12 : ∀ w ∈ u_ws RX12 TX12 33, w ∈ wsX12_readSaying := by decide +kernel
  have L_17 := hts (.fieldLink RX12 17 "CaseOrderModel" "many" "[I") (by decide +kernel)
  unfold f_X12_readSaying at hf
  refine lv_aload_n hx hb dX12_readSaying_0 rfl (lv_at hl 0 rfl) ?_
  obtain ⟨q38, hq38, hf⟩ := bd hf
  refine g_Vi (As := []) (rest := []) ⟨hx, hb, hml, hown, hts⟩ (k_X12_isFree hq38) (cwV 0 hts gX12_readSaying_X12_isFree rfl rfl rfl (by decide +kernel) ⟨Nat.le_of_ble_eq_true rfl, Nat.le_of_ble_eq_true rfl⟩) STR_ok hst hK hw rfl eR_c0 rfl rfl hl.1 rfl (Nat.le_of_ble_eq_true rfl) dX12_readSaying_1 ⟨Nat.zero_le _, Nat.zero_le _⟩ (fun H locs hw => ?_)
  refine lv_if_eq (tgt := 25) hx hb dX12_readSaying_4 (by decide) (fun c39 => ?_) (fun c39 => ?_)
  · have hf := it_p c39 hf
    exact kb_X12_readSaying_b25 C0 hf hw (lv_sub hl [0, 1] rfl)
  · have hf := it_n c39 hf
    refine lv_aload_n hx hb dX12_readSaying_7 rfl (lv_at hl 0 rfl) ?_
    refine g_get hx hb hts i_X12 hown hK hw 0 eR_c0 rfl 14 (by decide) L_17 (fun _ h => h) rfl dX12_readSaying_8 ?_
    refine lv_bipush (v := 6) hx hb dX12_readSaying_11 (by decide) ?_
    obtain ⟨g94, hf⟩ := gIn_some hf
    refine g_iald hx hb hK hw 3 1 eR_c3 rfl g94 dX12_readSaying_13 ?_
    refine lv_bipush (v := 12) hx hb dX12_readSaying_14 (by decide) ?_
    refine lv_icmp_ne (tgt := 25) hx hb dX12_readSaying_16 (by decide) (fun c95 => ?_) (fun c95 => ?_)
    · have hf := it_n c95 hf
      exact kb_X12_readSaying_b25 C0 hf hw (lv_sub hl [0, 1] rfl)
    · have hf := it_p c95 hf
      refine lv_aload_n hx hb dX12_readSaying_19 rfl (lv_at hl 0 rfl) ?_
      refine lv_iconst (v := 4) hx hb dX12_readSaying_20 (by decide) ?_
      obtain ⟨q96, hq96, hf⟩ := bd hf
      refine g_Vi (As := [.int 4]) (rest := []) ⟨hx, hb, hml, hown, hts⟩ (k_X12_bad hq96) (cwV 1 hts gX12_readSaying_X12_bad rfl rfl rfl (by decide +kernel) ⟨Nat.le_of_ble_eq_true rfl, Nat.le_of_ble_eq_true rfl⟩) STR_ok hst hK hw rfl eR_c0 rfl rfl hl.1 rfl (Nat.le_of_ble_eq_true rfl) dX12_readSaying_21 ⟨Nat.zero_le _, Nat.zero_le _⟩ (fun H locs hw => ?_)
      have hw : Wo D ad (Aw ad 19 s.heap.size) (eR ad y m_thrown m_taped m_size m_to m_from m_kind m_number q96.2.1 q96.2.2 m_name m_happenings m_newHappenings m_heard m_outs m_bounds a_tape a_happened a_many a_sort a_one a_other a_low a_high a_begins a_out a_behind a_ahead a_most a_left a_far a_quarrel a_early a_earlyLast) s.heap H locs := hw
      obtain ⟨g97, hf⟩ := gB_some hf
      obtain rfl := so hf
      exact W.zret (v := q96.1) hx hb hr (gB_n g97) (fun t ht _ => g_end hw t ht) hw.2.2.2.2 dX12_readSaying_24
set_option maxHeartbeats 4000000 in
theorem k_X12_readSaying {l : Launch} {D : va_G} {ad : Nat → Nat} {y : Nat → ClassId} {m_thrown : Int32} {m_taped : Int32} {m_size : Int32} {m_to : Int32} {m_from : Int32} {m_kind : Int32} {m_number : Int32} {m_fault : Int32} {m_place : Int32} {m_name : Int64} {m_happenings : Int32} {m_newHappenings : Int32} {m_heard : Int32} {m_outs : Int32} {m_bounds : Int32} {a_tape : Nat → Int32} {a_happened : Nat → Int64} {a_many : Nat → Int32} {a_sort : Nat → Int32} {a_one : Nat → Int32} {a_other : Nat → Int32} {a_low : Nat → Int32} {a_high : Nat → Int32} {a_begins : Nat → Int32} {a_out : Nat → Int32} {a_behind : Nat → Int32} {a_ahead : Nat → Int32} {a_most : Nat → Int32} {a_left : Nat → Int32} {a_far : Nat → Int32} {a_quarrel : Nat → Int32} {a_early : Nat → Int32} {a_earlyLast : Nat → Int32} {p1 : Int32} {res : Int32 × Int32 × Int32 × Int32 × Int32 × Int32 × Int32 × Int64 × Int32 × (Nat → Int64) × (Nat → Int32) × (Nat → Int32) × (Nat → Int32) × (Nat → Int32) × (Nat → Int32) × (Nat → Int32)} (hf : f_X12_readSaying m_size m_to m_from m_kind m_number m_fault m_place m_name m_newHappenings a_tape a_happened a_many a_sort a_one a_other a_low a_high a_begins p1 = some res) : CTi l yX12_readSaying wsX12_readSaying rm_X12_readSaying D ad 19 (tyL y) (STR ad) (eR ad y m_thrown m_taped m_size m_to m_from m_kind m_number m_fault m_place m_name m_happenings m_newHappenings m_heard m_outs m_bounds a_tape a_happened a_many a_sort a_one a_other a_low a_high a_begins a_out a_behind a_ahead a_most a_left a_far a_quarrel a_early a_earlyLast) (eR ad y m_thrown m_taped m_size res.2.1 res.2.2.1 res.2.2.2.1 res.2.2.2.2.1 res.2.2.2.2.2.1 res.2.2.2.2.2.2.1 res.2.2.2.2.2.2.2.1 m_happenings res.2.2.2.2.2.2.2.2.1 m_heard m_outs m_bounds a_tape res.2.2.2.2.2.2.2.2.2.1 a_many res.2.2.2.2.2.2.2.2.2.2.1 res.2.2.2.2.2.2.2.2.2.2.2.1 res.2.2.2.2.2.2.2.2.2.2.2.2.1 res.2.2.2.2.2.2.2.2.2.2.2.2.2.1 res.2.2.2.2.2.2.2.2.2.2.2.2.2.2.1 res.2.2.2.2.2.2.2.2.2.2.2.2.2.2.2 a_out a_behind a_ahead a_most a_left a_far a_quarrel a_early a_earlyLast) [.ref (ad 0), .int p1] res.1 := by
  intro sz
  refine Met.ofW (cc := cX12_readSaying) (maxL := 2) (ret := (some .boolean)) (by decide) rfl ?_
  intro p e s m args below meth c s₁ B hml hv
  obtain ⟨rfl, hsz, hP, hK, hD0, hst⟩ := hv
  subst hsz
  have C0 : CXT wsX12_readSaying cX12_readSaying RX12 2 (some .boolean) D (tyL y) (STR ad) p s m ([.ref (ad 0), .int p1] : List Value).toArray meth c := ⟨B.exec, B.bytes, B.returns, hml, findClass_of_methodNamed B.named, atoms_spec (ws := wsX12_readSaying) B.pre, B.notSynchronized, hK, hst⟩
  have hw := g_start (n := 19) rfl hP hD0
  have hl := lv_entry ([.ref (ad 0), .int p1]) (n := 2) (Nat.le_of_ble_eq_true rfl)
  rw [lg_entry_eq]
  generalize (lg_sl ([.ref (ad 0), .int p1]) ++ List.replicate (2 - (lg_sl ([.ref (ad 0), .int p1])).length) Slot.unset).toArray = ls at hl ⊢
  have hl : lv_has ls 2 [(0, .ref (ad 0)), (1, .int p1)] := hl
  exact ke_X12_readSaying C0 hf hw hl
