abbrev rm_X12_thrown : Room := { frames := 0, cells := 0, slots := 0, locals := 0 }
abbrev QM_X12_thrown (below : List Frame) (args : Array Value) (s : State) (D : va_G) (ad : Nat → Nat) (y : Nat → ClassId) (m_thrown : Int32) (m_taped : Int32) (m_size : Int32) (m_to : Int32) (m_from : Int32) (m_kind : Int32) (m_number : Int32) (m_fault : Int32) (m_place : Int32) (m_name : Int64) (m_happenings : Int32) (m_newHappenings : Int32) (m_heard : Int32) (m_outs : Int32) (m_bounds : Int32) (a_tape : Nat → Int32) (a_happened : Nat → Int64) (a_many : Nat → Int32) (a_sort : Nat → Int32) (a_one : Nat → Int32) (a_other : Nat → Int32) (a_low : Nat → Int32) (a_high : Nat → Int32) (a_begins : Nat → Int32) (a_out : Nat → Int32) (a_behind : Nat → Int32) (a_ahead : Nat → Int32) (a_most : Nat → Int32) (a_left : Nat → Int32) (a_far : Nat → Int32) (a_quarrel : Nat → Int32) (a_early : Nat → Int32) (a_earlyLast : Nat → Int32) (res : Int32) : State → Prop := MQ below (va_Qi (fun x (_ : Unit) => x = res) (fun _ t => va_P D vwCl (wls ad (eR ad y m_thrown m_taped m_size m_to m_from m_kind m_number m_fault m_place m_name m_happenings m_newHappenings m_heard m_outs m_bounds a_tape a_happened a_many a_sort a_one a_other a_low a_high a_begins a_out a_behind a_ahead a_most a_left a_far a_quarrel a_early a_earlyLast)) t.heap) (Aw ad 19 s.heap.size)) args s 0 0 (Aw ad 19 s.heap.size)
set_option maxHeartbeats 4000000 in
set_option maxRecDepth 100000 in
theorem ke_X12_thrown {p : Program} {l : Launch} {e : Env} {s : State} {m : MethodId} {args : Array Value} {below : List Frame} {meth : Method} {c : Code} {D : va_G} {ad : Nat → Nat} {y : Nat → ClassId} (C0 : CXT wsX12_thrown cX12_thrown RX12 1 (some .int) D (tyL y) (STR ad) p s m args meth c) {m_thrown : Int32} {m_taped : Int32} {m_size : Int32} {m_to : Int32} {m_from : Int32} {m_kind : Int32} {m_number : Int32} {m_fault : Int32} {m_place : Int32} {m_name : Int64} {m_happenings : Int32} {m_newHappenings : Int32} {m_heard : Int32} {m_outs : Int32} {m_bounds : Int32} {a_tape : Nat → Int32} {a_happened : Nat → Int64} {a_many : Nat → Int32} {a_sort : Nat → Int32} {a_one : Nat → Int32} {a_other : Nat → Int32} {a_low : Nat → Int32} {a_high : Nat → Int32} {a_begins : Nat → Int32} {a_out : Nat → Int32} {a_behind : Nat → Int32} {a_ahead : Nat → Int32} {a_most : Nat → Int32} {a_left : Nat → Int32} {a_far : Nat → Int32} {a_quarrel : Nat → Int32} {a_early : Nat → Int32} {a_earlyLast : Nat → Int32}  {res : Int32} (hf : f_X12_thrown m_thrown = some res) {H : Heap} {locs : List Loc} {ls : Array Slot} (hw : Wo D ad (Aw ad 19 s.heap.size) (eR ad y m_thrown m_taped m_size m_to m_from m_kind m_number m_fault m_place m_name m_happenings m_newHappenings m_heard m_outs m_bounds a_tape a_happened a_many a_sort a_one a_other a_low a_high a_begins a_out a_behind a_ahead a_most a_left a_far a_quarrel a_early a_earlyLast) s.heap H locs) (hl : lv_has ls 1 [(0, .ref (ad 0))]) : W p l e rm_X12_thrown s m args below meth c H locs 0 0 (QM_X12_thrown below args s D ad y (m_thrown) (m_taped) (m_size) (m_to) (m_from) (m_kind) (m_number) (m_fault) (m_place) (m_name) (m_happenings) (m_newHappenings) (m_heard) (m_outs) (m_bounds) (a_tape) (a_happened) (a_many) (a_sort) (a_one) (a_other) (a_low) (a_high) (a_begins) (a_out) (a_behind) (a_ahead) (a_most) (a_left) (a_far) (a_quarrel) (a_early) (a_earlyLast) res) (F0 m 0 ls []) := by
  obtain ⟨hx, hb, hr, hml, hown, hts, hlocks, hK, hst⟩ := id C0
  have i_X12 : ∀ w ∈ u_ws RX12 TX12 33, w ∈ wsX12_thrown := by decide +kernel
  have L_70 := hts (.fieldLink RX12 70 "CaseOrderModel" "thrown" "I") (by decide +kernel)
  unfold f_X12_thrown at hf
  refine lv_aload_n hx hb dX12_thrown_0 rfl (lv_at hl 0 rfl) ?_
  refine g_get hx hb hts i_X12 hown hK hw 0 eR_c0 rfl 0 (by decide) L_70 (fun _ h => h) rfl dX12_thrown_1 ?_
  obtain rfl := so hf
  exact W.iret (v := m_thrown) hx hb hr (fun t ht _ => g_end hw t ht) hw.2.2.2.2 dX12_thrown_4
set_option maxHeartbeats 4000000 in
theorem k_X12_thrown {l : Launch} {D : va_G} {ad : Nat → Nat} {y : Nat → ClassId} {m_thrown : Int32} {m_taped : Int32} {m_size : Int32} {m_to : Int32} {m_from : Int32} {m_kind : Int32} {m_number : Int32} {m_fault : Int32} {m_place : Int32} {m_name : Int64} {m_happenings : Int32} {m_newHappenings : Int32} {m_heard : Int32} {m_outs : Int32} {m_bounds : Int32} {a_tape : Nat → Int32} {a_happened : Nat → Int64} {a_many : Nat → Int32} {a_sort : Nat → Int32} {a_one : Nat → Int32} {a_other : Nat → Int32} {a_low : Nat → Int32} {a_high : Nat → Int32} {a_begins : Nat → Int32} {a_out : Nat → Int32} {a_behind : Nat → Int32} {a_ahead : Nat → Int32} {a_most : Nat → Int32} {a_left : Nat → Int32} {a_far : Nat → Int32} {a_quarrel : Nat → Int32} {a_early : Nat → Int32} {a_earlyLast : Nat → Int32}  {res : Int32} (hf : f_X12_thrown m_thrown = some res) : CTi l yX12_thrown wsX12_thrown rm_X12_thrown D ad 19 (tyL y) (STR ad) (eR ad y m_thrown m_taped m_size m_to m_from m_kind m_number m_fault m_place m_name m_happenings m_newHappenings m_heard m_outs m_bounds a_tape a_happened a_many a_sort a_one a_other a_low a_high a_begins a_out a_behind a_ahead a_most a_left a_far a_quarrel a_early a_earlyLast) (eR ad y m_thrown m_taped m_size m_to m_from m_kind m_number m_fault m_place m_name m_happenings m_newHappenings m_heard m_outs m_bounds a_tape a_happened a_many a_sort a_one a_other a_low a_high a_begins a_out a_behind a_ahead a_most a_left a_far a_quarrel a_early a_earlyLast) [.ref (ad 0)] res := by
  intro sz
  refine Met.ofW (cc := cX12_thrown) (maxL := 1) (ret := (some .int)) (by decide) rfl ?_
  intro p e s m args below meth c s₁ B hml hv
  obtain ⟨rfl, hsz, hP, hK, hD0, hst⟩ := hv
  subst hsz
  have C0 : CXT wsX12_thrown cX12_thrown RX12 1 (some .int) D (tyL y) (STR ad) p s m ([.ref (ad 0)] : List Value).toArray meth c := ⟨B.exec, B.bytes, B.returns, hml, findClass_of_methodNamed B.named, atoms_spec (ws := wsX12_thrown) B.pre, B.notSynchronized, hK, hst⟩
  have hw := g_start (n := 19) rfl hP hD0
  have hl := lv_entry ([.ref (ad 0)]) (n := 1) (Nat.le_of_ble_eq_true rfl)
  rw [lg_entry_eq]
  generalize (lg_sl ([.ref (ad 0)]) ++ List.replicate (1 - (lg_sl ([.ref (ad 0)])).length) Slot.unset).toArray = ls at hl ⊢
  have hl : lv_has ls 1 [(0, .ref (ad 0))] := hl
  exact ke_X12_thrown C0 hf hw hl
abbrev rm_X12_refuse : Room := { frames := 0, cells := 0, slots := 0, locals := 0 }
abbrev QM_X12_refuse (below : List Frame) (args : Array Value) (s : State) (D : va_G) (ad : Nat → Nat) (y : Nat → ClassId) (m_taped : Int32) (m_size : Int32) (m_to : Int32) (m_from : Int32) (m_kind : Int32) (m_number : Int32) (m_fault : Int32) (m_place : Int32) (m_name : Int64) (m_happenings : Int32) (m_newHappenings : Int32) (m_heard : Int32) (m_outs : Int32) (m_bounds : Int32) (a_tape : Nat → Int32) (a_happened : Nat → Int64) (a_many : Nat → Int32) (a_sort : Nat → Int32) (a_one : Nat → Int32) (a_other : Nat → Int32) (a_low : Nat → Int32) (a_high : Nat → Int32) (a_begins : Nat → Int32) (a_out : Nat → Int32) (a_behind : Nat → Int32) (a_ahead : Nat → Int32) (a_most : Nat → Int32) (a_left : Nat → Int32) (a_far : Nat → Int32) (a_quarrel : Nat → Int32) (a_early : Nat → Int32) (a_earlyLast : Nat → Int32) (res : Int32 × Int32) : State → Prop := MQ below (va_Qi (fun x (_ : Unit) => x = res.1) (fun _ t => va_P D vwCl (wls ad (eR ad y res.2 m_taped m_size m_to m_from m_kind m_number m_fault m_place m_name m_happenings m_newHappenings m_heard m_outs m_bounds a_tape a_happened a_many a_sort a_one a_other a_low a_high a_begins a_out a_behind a_ahead a_most a_left a_far a_quarrel a_early a_earlyLast)) t.heap) (Aw ad 19 s.heap.size)) args s 0 0 (Aw ad 19 s.heap.size)
set_option maxHeartbeats 4000000 in
set_option maxRecDepth 100000 in
theorem ke_X12_refuse {p : Program} {l : Launch} {e : Env} {s : State} {m : MethodId} {args : Array Value} {below : List Frame} {meth : Method} {c : Code} {D : va_G} {ad : Nat → Nat} {y : Nat → ClassId} (C0 : CXT wsX12_refuse cX12_refuse RX12 2 (some .int) D (tyL y) (STR ad) p s m args meth c) {m_thrown : Int32} {m_taped : Int32} {m_size : Int32} {m_to : Int32} {m_from : Int32} {m_kind : Int32} {m_number : Int32} {m_fault : Int32} {m_place : Int32} {m_name : Int64} {m_happenings : Int32} {m_newHappenings : Int32} {m_heard : Int32} {m_outs : Int32} {m_bounds : Int32} {a_tape : Nat → Int32} {a_happened : Nat → Int64} {a_many : Nat → Int32} {a_sort : Nat → Int32} {a_one : Nat → Int32} {a_other : Nat → Int32} {a_low : Nat → Int32} {a_high : Nat → Int32} {a_begins : Nat → Int32} {a_out : Nat → Int32} {a_behind : Nat → Int32} {a_ahead : Nat → Int32} {a_most : Nat → Int32} {a_left : Nat → Int32} {a_far : Nat → Int32} {a_quarrel : Nat → Int32} {a_early : Nat → Int32} {a_earlyLast : Nat → Int32} {p1 : Int32} {res : Int32 × Int32} (hf : f_X12_refuse m_thrown p1 = some res) {H : Heap} {locs : List Loc} {ls : Array Slot} (hw : Wo D ad (Aw ad 19 s.heap.size) (eR ad y m_thrown m_taped m_size m_to m_from m_kind m_number m_fault m_place m_name m_happenings m_newHappenings m_heard m_outs m_bounds a_tape a_happened a_many a_sort a_one a_other a_low a_high a_begins a_out a_behind a_ahead a_most a_left a_far a_quarrel a_early a_earlyLast) s.heap H locs) (hl : lv_has ls 2 [(0, .ref (ad 0)), (1, .int p1)]) : W p l e rm_X12_refuse s m args below meth c H locs 0 0 (QM_X12_refuse below args s D ad y (m_taped) (m_size) (m_to) (m_from) (m_kind) (m_number) (m_fault) (m_place) (m_name) (m_happenings) (m_newHappenings) (m_heard) (m_outs) (m_bounds) (a_tape) (a_happened) (a_many) (a_sort) (a_one) (a_other) (a_low) (a_high) (a_begins) (a_out) (a_behind) (a_ahead) (a_most) (a_left) (a_far) (a_quarrel) (a_early) (a_earlyLast) res) (F0 m 0 ls []) := by
  obtain ⟨hx, hb, hr, hml, hown, hts, hlocks, hK, hst⟩ := id C0
  have i_X12 : ∀ w ∈ u_ws RX12 TX12 33, w ∈ wsX12_refuse := by decide +kernel
  have L_70 := hts (.fieldLink RX12 70 "CaseOrderModel" "thrown" "I") (by decide +kernel)
  unfold f_X12_refuse at hf
  refine lv_aload_n hx hb dX12_refuse_0 rfl (lv_at hl 0 rfl) ?_
  refine lv_iload_n hx hb dX12_refuse_1 rfl (lv_at hl 1 rfl) ?_
  refine g_put (ty := .int) hx hb hts i_X12 tyX12 tyX12_ok nmX12 hown hK hw 0 eR_c0 rfl 0 (by decide) L_70 (fun _ h => h) rfl (by decide +kernel) rfl rfl (Nat.le_of_ble_eq_true rfl) dX12_refuse_2 (fun H locs hw => ?_)
  have hw : Wo D ad (Aw ad 19 s.heap.size) (eR ad y p1 m_taped m_size m_to m_from m_kind m_number m_fault m_place m_name m_happenings m_newHappenings m_heard m_outs m_bounds a_tape a_happened a_many a_sort a_one a_other a_low a_high a_begins a_out a_behind a_ahead a_most a_left a_far a_quarrel a_early a_earlyLast) s.heap H locs := hw
  refine lv_iconst (v := 0) hx hb dX12_refuse_5 (by decide) ?_
  obtain rfl := so hf
  exact W.iret (v := 0) hx hb hr (fun t ht _ => g_end hw t ht) hw.2.2.2.2 dX12_refuse_6
set_option maxHeartbeats 4000000 in
theorem k_X12_refuse {l : Launch} {D : va_G} {ad : Nat → Nat} {y : Nat → ClassId} {m_thrown : Int32} {m_taped : Int32} {m_size : Int32} {m_to : Int32} {m_from : Int32} {m_kind : Int32} {m_number : Int32} {m_fault : Int32} {m_place : Int32} {m_name : Int64} {m_happenings : Int32} {m_newHappenings : Int32} {m_heard : Int32} {m_outs : Int32} {m_bounds : Int32} {a_tape : Nat → Int32} {a_happened : Nat → Int64} {a_many : Nat → Int32} {a_sort : Nat → Int32} {a_one : Nat → Int32} {a_other : Nat → Int32} {a_low : Nat → Int32} {a_high : Nat → Int32} {a_begins : Nat → Int32} {a_out : Nat → Int32} {a_behind : Nat → Int32} {a_ahead : Nat → Int32} {a_most : Nat → Int32} {a_left : Nat → Int32} {a_far : Nat → Int32} {a_quarrel : Nat → Int32} {a_early : Nat → Int32} {a_earlyLast : Nat → Int32} {p1 : Int32} {res : Int32 × Int32} (hf : f_X12_refuse m_thrown p1 = some res) : CTi l yX12_refuse wsX12_refuse rm_X12_refuse D ad 19 (tyL y) (STR ad) (eR ad y m_thrown m_taped m_size m_to m_from m_kind m_number m_fault m_place m_name m_happenings m_newHappenings m_heard m_outs m_bounds a_tape a_happened a_many a_sort a_one a_other a_low a_high a_begins a_out a_behind a_ahead a_most a_left a_far a_quarrel a_early a_earlyLast) (eR ad y res.2 m_taped m_size m_to m_from m_kind m_number m_fault m_place m_name m_happenings m_newHappenings m_heard m_outs m_bounds a_tape a_happened a_many a_sort a_one a_other a_low a_high a_begins a_out a_behind a_ahead a_most a_left a_far a_quarrel a_early a_earlyLast) [.ref (ad 0), .int p1] res.1 := by
  intro sz
  refine Met.ofW (cc := cX12_refuse) (maxL := 2) (ret := (some .int)) (by decide) rfl ?_
  intro p e s m args below meth c s₁ B hml hv
  obtain ⟨rfl, hsz, hP, hK, hD0, hst⟩ := hv
  subst hsz
  have C0 : CXT wsX12_refuse cX12_refuse RX12 2 (some .int) D (tyL y) (STR ad) p s m ([.ref (ad 0), .int p1] : List Value).toArray meth c := ⟨B.exec, B.bytes, B.returns, hml, findClass_of_methodNamed B.named, atoms_spec (ws := wsX12_refuse) B.pre, B.notSynchronized, hK, hst⟩
  have hw := g_start (n := 19) rfl hP hD0
  have hl := lv_entry ([.ref (ad 0), .int p1]) (n := 2) (Nat.le_of_ble_eq_true rfl)
  rw [lg_entry_eq]
  generalize (lg_sl ([.ref (ad 0), .int p1]) ++ List.replicate (2 - (lg_sl ([.ref (ad 0), .int p1])).length) Slot.unset).toArray = ls at hl ⊢
  have hl : lv_has ls 2 [(0, .ref (ad 0)), (1, .int p1)] := hl
  exact ke_X12_refuse C0 hf hw hl
abbrev rm_X12_come : Room := { frames := 0, cells := 0, slots := 0, locals := 0 }
abbrev QM_X12_come (below : List Frame) (args : Array Value) (s : State) (D : va_G) (ad : Nat → Nat) (y : Nat → ClassId) (m_thrown : Int32) (m_size : Int32) (m_to : Int32) (m_from : Int32) (m_kind : Int32) (m_number : Int32) (m_fault : Int32) (m_place : Int32) (m_name : Int64) (m_happenings : Int32) (m_newHappenings : Int32) (m_heard : Int32) (m_outs : Int32) (m_bounds : Int32) (a_happened : Nat → Int64) (a_many : Nat → Int32) (a_sort : Nat → Int32) (a_one : Nat → Int32) (a_other : Nat → Int32) (a_low : Nat → Int32) (a_high : Nat → Int32) (a_begins : Nat → Int32) (a_out : Nat → Int32) (a_behind : Nat → Int32) (a_ahead : Nat → Int32) (a_most : Nat → Int32) (a_left : Nat → Int32) (a_far : Nat → Int32) (a_quarrel : Nat → Int32) (a_early : Nat → Int32) (a_earlyLast : Nat → Int32) (res : Int32 × (Nat → Int32)) : State → Prop := MQ below (va_Qv (fun (_ : Unit) => True) (fun _ t => va_P D vwCl (wls ad (eR ad y m_thrown res.1 m_size m_to m_from m_kind m_number m_fault m_place m_name m_happenings m_newHappenings m_heard m_outs m_bounds res.2 a_happened a_many a_sort a_one a_other a_low a_high a_begins a_out a_behind a_ahead a_most a_left a_far a_quarrel a_early a_earlyLast)) t.heap) (Aw ad 19 s.heap.size)) args s 0 0 (Aw ad 19 s.heap.size)
set_option maxHeartbeats 4000000 in
set_option maxRecDepth 100000 in
theorem kw_X12_come_3 {p : Program} {l : Launch} {e : Env} {s : State} {m : MethodId} {args : Array Value} {below : List Frame} {meth : Method} {c : Code} {D : va_G} {ad : Nat → Nat} {y : Nat → ClassId} (C0 : CXT wsX12_come cX12_come RX12 3 none D (tyL y) (STR ad) p s m args meth c) {m_thrown : Int32} {m_size : Int32} {m_to : Int32} {m_from : Int32} {m_kind : Int32} {m_number : Int32} {m_fault : Int32} {m_place : Int32} {m_name : Int64} {m_happenings : Int32} {m_newHappenings : Int32} {m_heard : Int32} {m_outs : Int32} {m_bounds : Int32} {a_happened : Nat → Int64} {a_many : Nat → Int32} {a_sort : Nat → Int32} {a_one : Nat → Int32} {a_other : Nat → Int32} {a_low : Nat → Int32} {a_high : Nat → Int32} {a_begins : Nat → Int32} {a_out : Nat → Int32} {a_behind : Nat → Int32} {a_ahead : Nat → Int32} {a_most : Nat → Int32} {a_left : Nat → Int32} {a_far : Nat → Int32} {a_quarrel : Nat → Int32} {a_early : Nat → Int32} {a_earlyLast : Nat → Int32} {u1 : Int32} {res : Int32 × (Nat → Int32)} {sg : Int32 × Int32 × (Nat → Int32)} {o : (Int32 × Int32 × (Nat → Int32)) ⊕ (Int32 × Int32 × (Nat → Int32))} (hf : f_X12_come_l3 u1 sg = some o) {H : Heap} {locs : List Loc} {ls : Array Slot} (hw : Wo D ad (Aw ad 19 s.heap.size) (eR ad y m_thrown sg.2.1 m_size m_to m_from m_kind m_number m_fault m_place m_name m_happenings m_newHappenings m_heard m_outs m_bounds sg.2.2 a_happened a_many a_sort a_one a_other a_low a_high a_begins a_out a_behind a_ahead a_most a_left a_far a_quarrel a_early a_earlyLast) s.heap H locs) (hl : lv_has ls 3 [(0, .ref (ad 0)), (1, .int u1), (2, .int sg.1)]) (hcont : ∀ s2, o = .inl s2 → ∀ (H : Heap) (locs : List Loc) (ls : Array Slot), Wo D ad (Aw ad 19 s.heap.size) (eR ad y m_thrown s2.2.1 m_size m_to m_from m_kind m_number m_fault m_place m_name m_happenings m_newHappenings m_heard m_outs m_bounds s2.2.2 a_happened a_many a_sort a_one a_other a_low a_high a_begins a_out a_behind a_ahead a_most a_left a_far a_quarrel a_early a_earlyLast) s.heap H locs → lv_has ls 3 [(0, .ref (ad 0)), (1, .int u1), (2, .int s2.1)] → W p l e rm_X12_come s m args below meth c H locs 0 0 (QM_X12_come below args s D ad y (m_thrown) (m_size) (m_to) (m_from) (m_kind) (m_number) (m_fault) (m_place) (m_name) (m_happenings) (m_newHappenings) (m_heard) (m_outs) (m_bounds) (a_happened) (a_many) (a_sort) (a_one) (a_other) (a_low) (a_high) (a_begins) (a_out) (a_behind) (a_ahead) (a_most) (a_left) (a_far) (a_quarrel) (a_early) (a_earlyLast) res) (F0 m 3 ls [])) (hexit : ∀ t, o = .inr t → ∀ (H : Heap) (locs : List Loc) (ls : Array Slot), Wo D ad (Aw ad 19 s.heap.size) (eR ad y m_thrown t.2.1 m_size m_to m_from m_kind m_number m_fault m_place m_name m_happenings m_newHappenings m_heard m_outs m_bounds t.2.2 a_happened a_many a_sort a_one a_other a_low a_high a_begins a_out a_behind a_ahead a_most a_left a_far a_quarrel a_early a_earlyLast) s.heap H locs → lv_has ls 3 [(0, .ref (ad 0)), (1, .int u1), (2, .int t.1)] → W p l e rm_X12_come s m args below meth c H locs 0 0 (QM_X12_come below args s D ad y (m_thrown) (m_size) (m_to) (m_from) (m_kind) (m_number) (m_fault) (m_place) (m_name) (m_happenings) (m_newHappenings) (m_heard) (m_outs) (m_bounds) (a_happened) (a_many) (a_sort) (a_one) (a_other) (a_low) (a_high) (a_begins) (a_out) (a_behind) (a_ahead) (a_most) (a_left) (a_far) (a_quarrel) (a_early) (a_earlyLast) res) (F0 m 39 ls [])) : W p l e rm_X12_come s m args below meth c H locs 0 0 (QM_X12_come below args s D ad y (m_thrown) (m_size) (m_to) (m_from) (m_kind) (m_number) (m_fault) (m_place) (m_name) (m_happenings) (m_newHappenings) (m_heard) (m_outs) (m_bounds) (a_happened) (a_many) (a_sort) (a_one) (a_other) (a_low) (a_high) (a_begins) (a_out) (a_behind) (a_ahead) (a_most) (a_left) (a_far) (a_quarrel) (a_early) (a_earlyLast) res) (F0 m 3 ls []) := by
  obtain ⟨hx, hb, hr, hml, hown, hts, hlocks, hK, hst⟩ := id C0
  have i_X12 : ∀ w ∈ u_ws RX12 TX12 33, w ∈ wsX12_come := by decide +kernel
  have L_7 := hts (.fieldLink RX12 7 "CaseOrderModel" "tape" "[I") (by decide +kernel)
  have L_73 := hts (.fieldLink RX12 73 "CaseOrderModel" "taped" "I") (by decide +kernel)
  unfold f_X12_come_l3 at hf
  refine lv_iload_n hx hb dX12_come_3 rfl (lv_at hl 2 rfl) ?_
  refine lv_if_lt (tgt := 39) hx hb dX12_come_4 (by decide) (fun c2 => ?_) (fun c2 => ?_)
  · have hf := it_p c2 hf
    exact hexit _ (so hf).symm _ _ _ hw (lv_sub hl [0, 1, 2] rfl)
  · have hf := it_n c2 hf
    refine lv_aload_n hx hb dX12_come_7 rfl (lv_at hl 0 rfl) ?_
    refine g_get hx hb hts i_X12 hown hK hw 0 eR_c0 rfl 1 (by decide) L_7 (fun _ h => h) rfl dX12_come_8 ?_
    refine lv_aload_n hx hb dX12_come_11 rfl (lv_at hl 0 rfl) ?_
    refine g_get hx hb hts i_X12 hown hK hw 0 eR_c0 rfl 2 (by decide) L_73 (fun _ h => h) rfl dX12_come_12 ?_
    refine lv_iload_n hx hb dX12_come_15 rfl (lv_at hl 1 rfl) ?_
    refine lv_iload_n hx hb dX12_come_16 rfl (lv_at hl 2 rfl) ?_
    refine lv_iushr hx hb dX12_come_17 rfl ?_
    refine lv_sipush (v := 255) hx hb dX12_come_18 (by decide) ?_
    refine lv_iand hx hb dX12_come_21 ?_
    obtain ⟨g3, hf⟩ := gIn_some hf
    refine g_iast hx hb hK hw 1 1 eR_c1 rfl g3 dX12_come_22 (fun H locs hw => ?_)
    have hw : Wo D ad (Aw ad 19 s.heap.size) (eR ad y m_thrown sg.2.1 m_size m_to m_from m_kind m_number m_fault m_place m_name m_happenings m_newHappenings m_heard m_outs m_bounds (upd sg.2.2 (Int32.toNatClampNeg sg.2.1) (((u1.toUInt32 >>> (Int32.toUInt32 sg.1 &&& Int32.toUInt32 31)).toInt32) &&& 255)) a_happened a_many a_sort a_one a_other a_low a_high a_begins a_out a_behind a_ahead a_most a_left a_far a_quarrel a_early a_earlyLast) s.heap H locs := hw
    refine lv_aload_n hx hb dX12_come_23 rfl (lv_at hl 0 rfl) ?_
    refine lv_dup hx hb dX12_come_24 rfl ?_
    refine g_get hx hb hts i_X12 hown hK hw 0 eR_c0 rfl 2 (by decide) L_73 (fun _ h => h) rfl dX12_come_25 ?_
    refine lv_iconst (v := 1) hx hb dX12_come_28 (by decide) ?_
    refine lv_iadd hx hb dX12_come_29 ?_
    refine g_put (ty := .int) hx hb hts i_X12 tyX12 tyX12_ok nmX12 hown hK hw 0 eR_c0 rfl 2 (by decide) L_73 (fun _ h => h) rfl (by decide +kernel) rfl rfl (Nat.le_of_ble_eq_true rfl) dX12_come_30 (fun H locs hw => ?_)
    have hw : Wo D ad (Aw ad 19 s.heap.size) (eR ad y m_thrown (sg.2.1 + 1) m_size m_to m_from m_kind m_number m_fault m_place m_name m_happenings m_newHappenings m_heard m_outs m_bounds (upd sg.2.2 (Int32.toNatClampNeg sg.2.1) (((u1.toUInt32 >>> (Int32.toUInt32 sg.1 &&& Int32.toUInt32 31)).toInt32) &&& 255)) a_happened a_many a_sort a_one a_other a_low a_high a_begins a_out a_behind a_ahead a_most a_left a_far a_quarrel a_early a_earlyLast) s.heap H locs := hw
    refine lv_iinc (v := sg.1 + (-8)) (lv' := [(2, .int (sg.1 + (-8))), (0, .ref (ad 0)), (1, .int u1)]) hx hb dX12_come_33 hl (k := 2) rfl rfl (by decide) rfl (fun ls hl => ?_)
    refine lv_goto (tgt := 3) hx hb dX12_come_36 (by decide) ?_
    exact hcont _ (so hf).symm _ _ _ hw (lv_sub hl [1, 2, 0] rfl)
set_option maxHeartbeats 4000000 in
theorem kl_X12_come_3 {p : Program} {l : Launch} {e : Env} {s : State} {m : MethodId} {args : Array Value} {below : List Frame} {meth : Method} {c : Code} {D : va_G} {ad : Nat → Nat} {y : Nat → ClassId} (C0 : CXT wsX12_come cX12_come RX12 3 none D (tyL y) (STR ad) p s m args meth c) {m_thrown : Int32} {m_size : Int32} {m_to : Int32} {m_from : Int32} {m_kind : Int32} {m_number : Int32} {m_fault : Int32} {m_place : Int32} {m_name : Int64} {m_happenings : Int32} {m_newHappenings : Int32} {m_heard : Int32} {m_outs : Int32} {m_bounds : Int32} {a_happened : Nat → Int64} {a_many : Nat → Int32} {a_sort : Nat → Int32} {a_one : Nat → Int32} {a_other : Nat → Int32} {a_low : Nat → Int32} {a_high : Nat → Int32} {a_begins : Nat → Int32} {a_out : Nat → Int32} {a_behind : Nat → Int32} {a_ahead : Nat → Int32} {a_most : Nat → Int32} {a_left : Nat → Int32} {a_far : Nat → Int32} {a_quarrel : Nat → Int32} {a_early : Nat → Int32} {a_earlyLast : Nat → Int32} {u1 : Int32} {res : Int32 × (Nat → Int32)} : ∀ (n : Nat) (sg : Int32 × Int32 × (Nat → Int32)) (q : Int32 × Int32 × (Nat → Int32)), lp (f_X12_come_l3 u1) n sg = some q → ∀ (H : Heap) (locs : List Loc) (ls : Array Slot), Wo D ad (Aw ad 19 s.heap.size) (eR ad y m_thrown sg.2.1 m_size m_to m_from m_kind m_number m_fault m_place m_name m_happenings m_newHappenings m_heard m_outs m_bounds sg.2.2 a_happened a_many a_sort a_one a_other a_low a_high a_begins a_out a_behind a_ahead a_most a_left a_far a_quarrel a_early a_earlyLast) s.heap H locs → lv_has ls 3 [(0, .ref (ad 0)), (1, .int u1), (2, .int sg.1)] → (∀ (H : Heap) (locs : List Loc) (ls : Array Slot), Wo D ad (Aw ad 19 s.heap.size) (eR ad y m_thrown q.2.1 m_size m_to m_from m_kind m_number m_fault m_place m_name m_happenings m_newHappenings m_heard m_outs m_bounds q.2.2 a_happened a_many a_sort a_one a_other a_low a_high a_begins a_out a_behind a_ahead a_most a_left a_far a_quarrel a_early a_earlyLast) s.heap H locs → lv_has ls 3 [(0, .ref (ad 0)), (1, .int u1), (2, .int q.1)] → W p l e rm_X12_come s m args below meth c H locs 0 0 (QM_X12_come below args s D ad y (m_thrown) (m_size) (m_to) (m_from) (m_kind) (m_number) (m_fault) (m_place) (m_name) (m_happenings) (m_newHappenings) (m_heard) (m_outs) (m_bounds) (a_happened) (a_many) (a_sort) (a_one) (a_other) (a_low) (a_high) (a_begins) (a_out) (a_behind) (a_ahead) (a_most) (a_left) (a_far) (a_quarrel) (a_early) (a_earlyLast) res) (F0 m 39 ls [])) → W p l e rm_X12_come s m args below meth c H locs 0 0 (QM_X12_come below args s D ad y (m_thrown) (m_size) (m_to) (m_from) (m_kind) (m_number) (m_fault) (m_place) (m_name) (m_happenings) (m_newHappenings) (m_heard) (m_outs) (m_bounds) (a_happened) (a_many) (a_sort) (a_one) (a_other) (a_low) (a_high) (a_begins) (a_out) (a_behind) (a_ahead) (a_most) (a_left) (a_far) (a_quarrel) (a_early) (a_earlyLast) res) (F0 m 3 ls []) := by
  intro n
  induction n with
  | zero => intro sg q hf; exact absurd hf lp_zero
  | succ n ih =>
    intro sg q hf H locs ls hw hl hexit
    rcases lp_succ hf with ⟨sg2, h1, h2⟩ | h1
    · exact kw_X12_come_3 C0 h1 hw hl (fun s2 e2 H locs ls hw hl => by cases e2; exact ih _ q h2 H locs ls hw hl hexit) (fun t e2 => by cases e2)
    · exact kw_X12_come_3 C0 h1 hw hl (fun s2 e2 => by cases e2) (fun t e2 => by cases e2; exact hexit)
set_option maxHeartbeats 4000000 in
set_option maxRecDepth 100000 in
theorem ke_X12_come {p : Program} {l : Launch} {e : Env} {s : State} {m : MethodId} {args : Array Value} {below : List Frame} {meth : Method} {c : Code} {D : va_G} {ad : Nat → Nat} {y : Nat → ClassId} (C0 : CXT wsX12_come cX12_come RX12 3 none D (tyL y) (STR ad) p s m args meth c) {m_thrown : Int32} {m_taped : Int32} {m_size : Int32} {m_to : Int32} {m_from : Int32} {m_kind : Int32} {m_number : Int32} {m_fault : Int32} {m_place : Int32} {m_name : Int64} {m_happenings : Int32} {m_newHappenings : Int32} {m_heard : Int32} {m_outs : Int32} {m_bounds : Int32} {a_tape : Nat → Int32} {a_happened : Nat → Int64} {a_many : Nat → Int32} {a_sort : Nat → Int32} {a_one : Nat → Int32} {a_other : Nat → Int32} {a_low : Nat → Int32} {a_high : Nat → Int32} {a_begins : Nat → Int32} {a_out : Nat → Int32} {a_behind : Nat → Int32} {a_ahead : Nat → Int32} {a_most : Nat → Int32} {a_left : Nat → Int32} {a_far : Nat → Int32} {a_quarrel : Nat → Int32} {a_early : Nat → Int32} {a_earlyLast : Nat → Int32} {p1 : Int32} {res : Int32 × (Nat → Int32)} (hf : f_X12_come m_taped a_tape p1 = some res) {H : Heap} {locs : List Loc} {ls : Array Slot} (hw : Wo D ad (Aw ad 19 s.heap.size) (eR ad y m_thrown m_taped m_size m_to m_from m_kind m_number m_fault m_place m_name m_happenings m_newHappenings m_heard m_outs m_bounds a_tape a_happened a_many a_sort a_one a_other a_low a_high a_begins a_out a_behind a_ahead a_most a_left a_far a_quarrel a_early a_earlyLast) s.heap H locs) (hl : lv_has ls 3 [(0, .ref (ad 0)), (1, .int p1)]) : W p l e rm_X12_come s m args below meth c H locs 0 0 (QM_X12_come below args s D ad y (m_thrown) (m_size) (m_to) (m_from) (m_kind) (m_number) (m_fault) (m_place) (m_name) (m_happenings) (m_newHappenings) (m_heard) (m_outs) (m_bounds) (a_happened) (a_many) (a_sort) (a_one) (a_other) (a_low) (a_high) (a_begins) (a_out) (a_behind) (a_ahead) (a_most) (a_left) (a_far) (a_quarrel) (a_early) (a_earlyLast) res) (F0 m 0 ls []) := by
  obtain ⟨hx, hb, hr, hml, hown, hts, hlocks, hK, hst⟩ := id C0
  unfold f_X12_come at hf
  refine lv_bipush (v := 24) hx hb dX12_come_0 (by decide) ?_
  refine lv_istore_n (lv' := [(2, .int 24), (0, .ref (ad 0)), (1, .int p1)]) hx hb dX12_come_2 rfl hl (by decide) rfl (fun ls hl => ?_)
  obtain ⟨q4, hq4, hf⟩ := bd hf
  refine kl_X12_come_3 C0 gFU _ _ hq4 _ _ _ hw (lv_sub hl [1, 2, 0] rfl) (fun H locs ls hw hl => ?_)
  have hw : Wo D ad (Aw ad 19 s.heap.size) (eR ad y m_thrown q4.2.1 m_size m_to m_from m_kind m_number m_fault m_place m_name m_happenings m_newHappenings m_heard m_outs m_bounds q4.2.2 a_happened a_many a_sort a_one a_other a_low a_high a_begins a_out a_behind a_ahead a_most a_left a_far a_quarrel a_early a_earlyLast) s.heap H locs := hw
  have hl : lv_has ls 3 [(0, .ref (ad 0)), (1, .int p1), (2, .int q4.1)] := hl
  obtain rfl := so hf
  exact W.vret hx hb hr (fun t ht _ => g_endv hw t ht) hw.2.2.2.2 dX12_come_39
set_option maxHeartbeats 4000000 in
theorem k_X12_come {l : Launch} {D : va_G} {ad : Nat → Nat} {y : Nat → ClassId} {m_thrown : Int32} {m_taped : Int32} {m_size : Int32} {m_to : Int32} {m_from : Int32} {m_kind : Int32} {m_number : Int32} {m_fault : Int32} {m_place : Int32} {m_name : Int64} {m_happenings : Int32} {m_newHappenings : Int32} {m_heard : Int32} {m_outs : Int32} {m_bounds : Int32} {a_tape : Nat → Int32} {a_happened : Nat → Int64} {a_many : Nat → Int32} {a_sort : Nat → Int32} {a_one : Nat → Int32} {a_other : Nat → Int32} {a_low : Nat → Int32} {a_high : Nat → Int32} {a_begins : Nat → Int32} {a_out : Nat → Int32} {a_behind : Nat → Int32} {a_ahead : Nat → Int32} {a_most : Nat → Int32} {a_left : Nat → Int32} {a_far : Nat → Int32} {a_quarrel : Nat → Int32} {a_early : Nat → Int32} {a_earlyLast : Nat → Int32} {p1 : Int32} {res : Int32 × (Nat → Int32)} (hf : f_X12_come m_taped a_tape p1 = some res) : CTv l yX12_come wsX12_come rm_X12_come D ad 19 (tyL y) (STR ad) (eR ad y m_thrown m_taped m_size m_to m_from m_kind m_number m_fault m_place m_name m_happenings m_newHappenings m_heard m_outs m_bounds a_tape a_happened a_many a_sort a_one a_other a_low a_high a_begins a_out a_behind a_ahead a_most a_left a_far a_quarrel a_early a_earlyLast) (eR ad y m_thrown res.1 m_size m_to m_from m_kind m_number m_fault m_place m_name m_happenings m_newHappenings m_heard m_outs m_bounds res.2 a_happened a_many a_sort a_one a_other a_low a_high a_begins a_out a_behind a_ahead a_most a_left a_far a_quarrel a_early a_earlyLast) [.ref (ad 0), .int p1] := by
  intro sz
  refine Met.ofW (cc := cX12_come) (maxL := 3) (ret := none) (by decide) rfl ?_
  intro p e s m args below meth c s₁ B hml hv
  obtain ⟨rfl, hsz, hP, hK, hD0, hst⟩ := hv
  subst hsz
  have C0 : CXT wsX12_come cX12_come RX12 3 none D (tyL y) (STR ad) p s m ([.ref (ad 0), .int p1] : List Value).toArray meth c := ⟨B.exec, B.bytes, B.returns, hml, findClass_of_methodNamed B.named, atoms_spec (ws := wsX12_come) B.pre, B.notSynchronized, hK, hst⟩
  have hw := g_start (n := 19) rfl hP hD0
  have hl := lv_entry ([.ref (ad 0), .int p1]) (n := 3) (Nat.le_of_ble_eq_true rfl)
  rw [lg_entry_eq]
  generalize (lg_sl ([.ref (ad 0), .int p1]) ++ List.replicate (3 - (lg_sl ([.ref (ad 0), .int p1])).length) Slot.unset).toArray = ls at hl ⊢
  have hl : lv_has ls 3 [(0, .ref (ad 0)), (1, .int p1)] := hl
  exact ke_X12_come C0 hf hw hl
abbrev rm_X12_feed : Room := { frames := 1, cells := 0, slots := 0, locals := 22 }
abbrev QM_X12_feed (below : List Frame) (args : Array Value) (s : State) (D : va_G) (ad : Nat → Nat) (y : Nat → ClassId) (m_size : Int32) (m_to : Int32) (m_from : Int32) (m_kind : Int32) (m_number : Int32) (m_fault : Int32) (m_place : Int32) (m_name : Int64) (m_happenings : Int32) (m_newHappenings : Int32) (m_heard : Int32) (m_outs : Int32) (m_bounds : Int32) (a_happened : Nat → Int64) (a_many : Nat → Int32) (a_sort : Nat → Int32) (a_one : Nat → Int32) (a_other : Nat → Int32) (a_low : Nat → Int32) (a_high : Nat → Int32) (a_begins : Nat → Int32) (a_out : Nat → Int32) (a_behind : Nat → Int32) (a_ahead : Nat → Int32) (a_most : Nat → Int32) (a_left : Nat → Int32) (a_far : Nat → Int32) (a_quarrel : Nat → Int32) (a_early : Nat → Int32) (a_earlyLast : Nat → Int32) (res : Int32 × Int32 × Int32 × (Nat → Int32)) : State → Prop := MQ below (va_Qi (fun x (_ : Unit) => x = res.1) (fun _ t => va_P D vwCl (wls ad (eR ad y res.2.1 res.2.2.1 m_size m_to m_from m_kind m_number m_fault m_place m_name m_happenings m_newHappenings m_heard m_outs m_bounds res.2.2.2 a_happened a_many a_sort a_one a_other a_low a_high a_begins a_out a_behind a_ahead a_most a_left a_far a_quarrel a_early a_earlyLast)) t.heap) (Aw ad 19 s.heap.size)) args s 0 0 (Aw ad 19 s.heap.size)
set_option maxHeartbeats 4000000 in
set_option maxRecDepth 100000 in
theorem ke_X12_feed {p : Program} {l : Launch} {e : Env} {s : State} {m : MethodId} {args : Array Value} {below : List Frame} {meth : Method} {c : Code} {D : va_G} {ad : Nat → Nat} {y : Nat → ClassId} (C0 : CXT wsX12_feed cX12_feed RX12 6 (some .int) D (tyL y) (STR ad) p s m args meth c) {m_thrown : Int32} {m_taped : Int32} {m_size : Int32} {m_to : Int32} {m_from : Int32} {m_kind : Int32} {m_number : Int32} {m_fault : Int32} {m_place : Int32} {m_name : Int64} {m_happenings : Int32} {m_newHappenings : Int32} {m_heard : Int32} {m_outs : Int32} {m_bounds : Int32} {a_tape : Nat → Int32} {a_happened : Nat → Int64} {a_many : Nat → Int32} {a_sort : Nat → Int32} {a_one : Nat → Int32} {a_other : Nat → Int32} {a_low : Nat → Int32} {a_high : Nat → Int32} {a_begins : Nat → Int32} {a_out : Nat → Int32} {a_behind : Nat → Int32} {a_ahead : Nat → Int32} {a_most : Nat → Int32} {a_left : Nat → Int32} {a_far : Nat → Int32} {a_quarrel : Nat → Int32} {a_early : Nat → Int32} {a_earlyLast : Nat → Int32} {p1 : Int32} {p2 : Int32} {p3 : Int32} {p4 : Int32} {p5 : Int32} {res : Int32 × Int32 × Int32 × (Nat → Int32)} (hf : f_X12_feed m_thrown m_taped a_tape p1 p2 p3 p4 p5 = some res) {H : Heap} {locs : List Loc} {ls : Array Slot} (hw : Wo D ad (Aw ad 19 s.heap.size) (eR ad y m_thrown m_taped m_size m_to m_from m_kind m_number m_fault m_place m_name m_happenings m_newHappenings m_heard m_outs m_bounds a_tape a_happened a_many a_sort a_one a_other a_low a_high a_begins a_out a_behind a_ahead a_most a_left a_far a_quarrel a_early a_earlyLast) s.heap H locs) (hl : lv_has ls 6 [(0, .ref (ad 0)), (1, .int p1), (2, .int p2), (3, .int p3), (4, .int p4), (5, .int p5)]) : W p l e rm_X12_feed s m args below meth c H locs 0 0 (QM_X12_feed below args s D ad y (m_size) (m_to) (m_from) (m_kind) (m_number) (m_fault) (m_place) (m_name) (m_happenings) (m_newHappenings) (m_heard) (m_outs) (m_bounds) (a_happened) (a_many) (a_sort) (a_one) (a_other) (a_low) (a_high) (a_begins) (a_out) (a_behind) (a_ahead) (a_most) (a_left) (a_far) (a_quarrel) (a_early) (a_earlyLast) res) (F0 m 0 ls []) := by
  obtain ⟨hx, hb, hr, hml, hown, hts, hlocks, hK, hst⟩ := id C0
  have i_X12 : ∀ w ∈ u_ws RX12 TX12 33, w ∈ wsX12_feed := by decide +kernel
  have L_70 := hts (.fieldLink RX12 70 "CaseOrderModel" "thrown" "I") (by decide +kernel)
  have L_73 := hts (.fieldLink RX12 73 "CaseOrderModel" "taped" "I") (by decide +kernel)
  unfold f_X12_feed at hf
  refine lv_aload_n hx hb dX12_feed_0 rfl (lv_at hl 0 rfl) ?_
  refine lv_iconst (v := 0) hx hb dX12_feed_1 (by decide) ?_
  refine g_put (ty := .int) hx hb hts i_X12 tyX12 tyX12_ok nmX12 hown hK hw 0 eR_c0 rfl 0 (by decide) L_70 (fun _ h => h) rfl (by decide +kernel) rfl rfl (Nat.le_of_ble_eq_true rfl) dX12_feed_2 (fun H locs hw => ?_)
  have hw : Wo D ad (Aw ad 19 s.heap.size) (eR ad y 0 m_taped m_size m_to m_from m_kind m_number m_fault m_place m_name m_happenings m_newHappenings m_heard m_outs m_bounds a_tape a_happened a_many a_sort a_one a_other a_low a_high a_begins a_out a_behind a_ahead a_most a_left a_far a_quarrel a_early a_earlyLast) s.heap H locs := hw
  refine lv_aload_n hx hb dX12_feed_5 rfl (lv_at hl 0 rfl) ?_
  refine g_get hx hb hts i_X12 hown hK hw 0 eR_c0 rfl 2 (by decide) L_73 (fun _ h => h) rfl dX12_feed_6 ?_
  refine lv_bipush (v := 20) hx hb dX12_feed_9 (by decide) ?_
  refine lv_iadd hx hb dX12_feed_11 ?_
  refine lv_sipush (v := 440) hx hb dX12_feed_12 (by decide) ?_
  refine lv_icmp_le (tgt := 20) hx hb dX12_feed_15 (by decide) (fun c6 => ?_) (fun c6 => ?_)
  · have hf := it_p c6 hf
    refine lv_aload_n hx hb dX12_feed_20 rfl (lv_at hl 0 rfl) ?_
    refine lv_iload_n hx hb dX12_feed_21 rfl (lv_at hl 1 rfl) ?_
    obtain ⟨q7, hq7, hf⟩ := bd hf
    refine g_Vv (As := [.int p1]) (rest := []) ⟨hx, hb, hml, hown, hts⟩ (k_X12_come hq7) (cwV 1 hts gX12_feed_X12_come rfl rfl rfl (by decide +kernel) ⟨Nat.le_of_ble_eq_true rfl, Nat.le_of_ble_eq_true rfl⟩) STR_ok hst hK hw rfl eR_c0 rfl rfl hl.1 rfl (Nat.le_of_ble_eq_true rfl) dX12_feed_22 ⟨Nat.zero_le _, Nat.zero_le _⟩ (fun H locs hw => ?_)
    have hw : Wo D ad (Aw ad 19 s.heap.size) (eR ad y 0 q7.1 m_size m_to m_from m_kind m_number m_fault m_place m_name m_happenings m_newHappenings m_heard m_outs m_bounds q7.2 a_happened a_many a_sort a_one a_other a_low a_high a_begins a_out a_behind a_ahead a_most a_left a_far a_quarrel a_early a_earlyLast) s.heap H locs := hw
    refine lv_aload_n hx hb dX12_feed_25 rfl (lv_at hl 0 rfl) ?_
    refine lv_iload_n hx hb dX12_feed_26 rfl (lv_at hl 2 rfl) ?_
    obtain ⟨q8, hq8, hf⟩ := bd hf
    refine g_Vv (As := [.int p2]) (rest := []) ⟨hx, hb, hml, hown, hts⟩ (k_X12_come hq8) (cwV 1 hts gX12_feed_X12_come rfl rfl rfl (by decide +kernel) ⟨Nat.le_of_ble_eq_true rfl, Nat.le_of_ble_eq_true rfl⟩) STR_ok hst hK hw rfl eR_c0 rfl rfl hl.1 rfl (Nat.le_of_ble_eq_true rfl) dX12_feed_27 ⟨Nat.zero_le _, Nat.zero_le _⟩ (fun H locs hw => ?_)
    have hw : Wo D ad (Aw ad 19 s.heap.size) (eR ad y 0 q8.1 m_size m_to m_from m_kind m_number m_fault m_place m_name m_happenings m_newHappenings m_heard m_outs m_bounds q8.2 a_happened a_many a_sort a_one a_other a_low a_high a_begins a_out a_behind a_ahead a_most a_left a_far a_quarrel a_early a_earlyLast) s.heap H locs := hw
    refine lv_aload_n hx hb dX12_feed_30 rfl (lv_at hl 0 rfl) ?_
    refine lv_iload_n hx hb dX12_feed_31 rfl (lv_at hl 3 rfl) ?_
    obtain ⟨q9, hq9, hf⟩ := bd hf
    refine g_Vv (As := [.int p3]) (rest := []) ⟨hx, hb, hml, hown, hts⟩ (k_X12_come hq9) (cwV 1 hts gX12_feed_X12_come rfl rfl rfl (by decide +kernel) ⟨Nat.le_of_ble_eq_true rfl, Nat.le_of_ble_eq_true rfl⟩) STR_ok hst hK hw rfl eR_c0 rfl rfl hl.1 rfl (Nat.le_of_ble_eq_true rfl) dX12_feed_32 ⟨Nat.zero_le _, Nat.zero_le _⟩ (fun H locs hw => ?_)
    have hw : Wo D ad (Aw ad 19 s.heap.size) (eR ad y 0 q9.1 m_size m_to m_from m_kind m_number m_fault m_place m_name m_happenings m_newHappenings m_heard m_outs m_bounds q9.2 a_happened a_many a_sort a_one a_other a_low a_high a_begins a_out a_behind a_ahead a_most a_left a_far a_quarrel a_early a_earlyLast) s.heap H locs := hw
    refine lv_aload_n hx hb dX12_feed_35 rfl (lv_at hl 0 rfl) ?_
    refine lv_iload hx hb dX12_feed_36 (lv_at hl 4 rfl) ?_
    obtain ⟨q10, hq10, hf⟩ := bd hf
    refine g_Vv (As := [.int p4]) (rest := []) ⟨hx, hb, hml, hown, hts⟩ (k_X12_come hq10) (cwV 1 hts gX12_feed_X12_come rfl rfl rfl (by decide +kernel) ⟨Nat.le_of_ble_eq_true rfl, Nat.le_of_ble_eq_true rfl⟩) STR_ok hst hK hw rfl eR_c0 rfl rfl hl.1 rfl (Nat.le_of_ble_eq_true rfl) dX12_feed_38 ⟨Nat.zero_le _, Nat.zero_le _⟩ (fun H locs hw => ?_)
    have hw : Wo D ad (Aw ad 19 s.heap.size) (eR ad y 0 q10.1 m_size m_to m_from m_kind m_number m_fault m_place m_name m_happenings m_newHappenings m_heard m_outs m_bounds q10.2 a_happened a_many a_sort a_one a_other a_low a_high a_begins a_out a_behind a_ahead a_most a_left a_far a_quarrel a_early a_earlyLast) s.heap H locs := hw
    refine lv_aload_n hx hb dX12_feed_41 rfl (lv_at hl 0 rfl) ?_
    refine lv_iload hx hb dX12_feed_42 (lv_at hl 5 rfl) ?_
    obtain ⟨q11, hq11, hf⟩ := bd hf
    refine g_Vv (As := [.int p5]) (rest := []) ⟨hx, hb, hml, hown, hts⟩ (k_X12_come hq11) (cwV 1 hts gX12_feed_X12_come rfl rfl rfl (by decide +kernel) ⟨Nat.le_of_ble_eq_true rfl, Nat.le_of_ble_eq_true rfl⟩) STR_ok hst hK hw rfl eR_c0 rfl rfl hl.1 rfl (Nat.le_of_ble_eq_true rfl) dX12_feed_44 ⟨Nat.zero_le _, Nat.zero_le _⟩ (fun H locs hw => ?_)
    have hw : Wo D ad (Aw ad 19 s.heap.size) (eR ad y 0 q11.1 m_size m_to m_from m_kind m_number m_fault m_place m_name m_happenings m_newHappenings m_heard m_outs m_bounds q11.2 a_happened a_many a_sort a_one a_other a_low a_high a_begins a_out a_behind a_ahead a_most a_left a_far a_quarrel a_early a_earlyLast) s.heap H locs := hw
    refine lv_aload_n hx hb dX12_feed_47 rfl (lv_at hl 0 rfl) ?_
    refine g_get hx hb hts i_X12 hown hK hw 0 eR_c0 rfl 2 (by decide) L_73 (fun _ h => h) rfl dX12_feed_48 ?_
    obtain rfl := so hf
    exact W.iret (v := q11.1) hx hb hr (fun t ht _ => g_end hw t ht) hw.2.2.2.2 dX12_feed_51
  · have hf := it_n c6 hf
    refine lv_iconst (v := (-1)) hx hb dX12_feed_18 (by decide) ?_
    obtain rfl := so hf
    exact W.iret (v := (-1)) hx hb hr (fun t ht _ => g_end hw t ht) hw.2.2.2.2 dX12_feed_19
set_option maxHeartbeats 4000000 in
theorem k_X12_feed {l : Launch} {D : va_G} {ad : Nat → Nat} {y : Nat → ClassId} {m_thrown : Int32} {m_taped : Int32} {m_size : Int32} {m_to : Int32} {m_from : Int32} {m_kind : Int32} {m_number : Int32} {m_fault : Int32} {m_place : Int32} {m_name : Int64} {m_happenings : Int32} {m_newHappenings : Int32} {m_heard : Int32} {m_outs : Int32} {m_bounds : Int32} {a_tape : Nat → Int32} {a_happened : Nat → Int64} {a_many : Nat → Int32} {a_sort : Nat → Int32} {a_one : Nat → Int32} {a_other : Nat → Int32} {a_low : Nat → Int32} {a_high : Nat → Int32} {a_begins : Nat → Int32} {a_out : Nat → Int32} {a_behind : Nat → Int32} {a_ahead : Nat → Int32} {a_most : Nat → Int32} {a_left : Nat → Int32} {a_far : Nat → Int32} {a_quarrel : Nat → Int32} {a_early : Nat → Int32} {a_earlyLast : Nat → Int32} {p1 : Int32} {p2 : Int32} {p3 : Int32} {p4 : Int32} {p5 : Int32} {res : Int32 × Int32 × Int32 × (Nat → Int32)} (hf : f_X12_feed m_thrown m_taped a_tape p1 p2 p3 p4 p5 = some res) : CTi l yX12_feed wsX12_feed rm_X12_feed D ad 19 (tyL y) (STR ad) (eR ad y m_thrown m_taped m_size m_to m_from m_kind m_number m_fault m_place m_name m_happenings m_newHappenings m_heard m_outs m_bounds a_tape a_happened a_many a_sort a_one a_other a_low a_high a_begins a_out a_behind a_ahead a_most a_left a_far a_quarrel a_early a_earlyLast) (eR ad y res.2.1 res.2.2.1 m_size m_to m_from m_kind m_number m_fault m_place m_name m_happenings m_newHappenings m_heard m_outs m_bounds res.2.2.2 a_happened a_many a_sort a_one a_other a_low a_high a_begins a_out a_behind a_ahead a_most a_left a_far a_quarrel a_early a_earlyLast) [.ref (ad 0), .int p1, .int p2, .int p3, .int p4, .int p5] res.1 := by
  intro sz
  refine Met.ofW (cc := cX12_feed) (maxL := 6) (ret := (some .int)) (by decide) rfl ?_
  intro p e s m args below meth c s₁ B hml hv
  obtain ⟨rfl, hsz, hP, hK, hD0, hst⟩ := hv
  subst hsz
  have C0 : CXT wsX12_feed cX12_feed RX12 6 (some .int) D (tyL y) (STR ad) p s m ([.ref (ad 0), .int p1, .int p2, .int p3, .int p4, .int p5] : List Value).toArray meth c := ⟨B.exec, B.bytes, B.returns, hml, findClass_of_methodNamed B.named, atoms_spec (ws := wsX12_feed) B.pre, B.notSynchronized, hK, hst⟩
  have hw := g_start (n := 19) rfl hP hD0
  have hl := lv_entry ([.ref (ad 0), .int p1, .int p2, .int p3, .int p4, .int p5]) (n := 6) (Nat.le_of_ble_eq_true rfl)
  rw [lg_entry_eq]
  generalize (lg_sl ([.ref (ad 0), .int p1, .int p2, .int p3, .int p4, .int p5]) ++ List.replicate (6 - (lg_sl ([.ref (ad 0), .int p1, .int p2, .int p3, .int p4, .int p5])).length) Slot.unset).toArray = ls at hl ⊢
  have hl : lv_has ls 6 [(0, .ref (ad 0)), (1, .int p1), (2, .int p2), (3, .int p3), (4, .int p4), (5, .int p5)] := hl
  exact ke_X12_feed C0 hf hw hl
abbrev rm_X12_end : Room := { frames := 0, cells := 0, slots := 0, locals := 0 }
abbrev QM_X12_end (below : List Frame) (args : Array Value) (s : State) (D : va_G) (ad : Nat → Nat) (y : Nat → ClassId) (m_size : Int32) (m_to : Int32) (m_from : Int32) (m_kind : Int32) (m_number : Int32) (m_fault : Int32) (m_place : Int32) (m_name : Int64) (m_happenings : Int32) (m_newHappenings : Int32) (m_heard : Int32) (m_outs : Int32) (m_bounds : Int32) (a_tape : Nat → Int32) (a_happened : Nat → Int64) (a_many : Nat → Int32) (a_sort : Nat → Int32) (a_one : Nat → Int32) (a_other : Nat → Int32) (a_low : Nat → Int32) (a_high : Nat → Int32) (a_begins : Nat → Int32) (a_out : Nat → Int32) (a_behind : Nat → Int32) (a_ahead : Nat → Int32) (a_most : Nat → Int32) (a_left : Nat → Int32) (a_far : Nat → Int32) (a_quarrel : Nat → Int32) (a_early : Nat → Int32) (a_earlyLast : Nat → Int32) (res : Int32 × Int32 × Int32) : State → Prop := MQ below (va_Qi (fun x (_ : Unit) => x = res.1) (fun _ t => va_P D vwCl (wls ad (eR ad y res.2.1 res.2.2 m_size m_to m_from m_kind m_number m_fault m_place m_name m_happenings m_newHappenings m_heard m_outs m_bounds a_tape a_happened a_many a_sort a_one a_other a_low a_high a_begins a_out a_behind a_ahead a_most a_left a_far a_quarrel a_early a_earlyLast)) t.heap) (Aw ad 19 s.heap.size)) args s 0 0 (Aw ad 19 s.heap.size)
set_option maxHeartbeats 4000000 in
set_option maxRecDepth 100000 in
theorem ke_X12_end {p : Program} {l : Launch} {e : Env} {s : State} {m : MethodId} {args : Array Value} {below : List Frame} {meth : Method} {c : Code} {D : va_G} {ad : Nat → Nat} {y : Nat → ClassId} (C0 : CXT wsX12_end cX12_end RX12 2 (some .boolean) D (tyL y) (STR ad) p s m args meth c) {m_thrown : Int32} {m_taped : Int32} {m_size : Int32} {m_to : Int32} {m_from : Int32} {m_kind : Int32} {m_number : Int32} {m_fault : Int32} {m_place : Int32} {m_name : Int64} {m_happenings : Int32} {m_newHappenings : Int32} {m_heard : Int32} {m_outs : Int32} {m_bounds : Int32} {a_tape : Nat → Int32} {a_happened : Nat → Int64} {a_many : Nat → Int32} {a_sort : Nat → Int32} {a_one : Nat → Int32} {a_other : Nat → Int32} {a_low : Nat → Int32} {a_high : Nat → Int32} {a_begins : Nat → Int32} {a_out : Nat → Int32} {a_behind : Nat → Int32} {a_ahead : Nat → Int32} {a_most : Nat → Int32} {a_left : Nat → Int32} {a_far : Nat → Int32} {a_quarrel : Nat → Int32} {a_early : Nat → Int32} {a_earlyLast : Nat → Int32} {p1 : Int32} {res : Int32 × Int32 × Int32} (hf : f_X12_end m_thrown m_taped p1 = some res) {H : Heap} {locs : List Loc} {ls : Array Slot} (hw : Wo D ad (Aw ad 19 s.heap.size) (eR ad y m_thrown m_taped m_size m_to m_from m_kind m_number m_fault m_place m_name m_happenings m_newHappenings m_heard m_outs m_bounds a_tape a_happened a_many a_sort a_one a_other a_low a_high a_begins a_out a_behind a_ahead a_most a_left a_far a_quarrel a_early a_earlyLast) s.heap H locs) (hl : lv_has ls 2 [(0, .ref (ad 0)), (1, .int p1)]) : W p l e rm_X12_end s m args below meth c H locs 0 0 (QM_X12_end below args s D ad y (m_size) (m_to) (m_from) (m_kind) (m_number) (m_fault) (m_place) (m_name) (m_happenings) (m_newHappenings) (m_heard) (m_outs) (m_bounds) (a_tape) (a_happened) (a_many) (a_sort) (a_one) (a_other) (a_low) (a_high) (a_begins) (a_out) (a_behind) (a_ahead) (a_most) (a_left) (a_far) (a_quarrel) (a_early) (a_earlyLast) res) (F0 m 0 ls []) := by
  obtain ⟨hx, hb, hr, hml, hown, hts, hlocks, hK, hst⟩ := id C0
  have i_X12 : ∀ w ∈ u_ws RX12 TX12 33, w ∈ wsX12_end := by decide +kernel
  have L_70 := hts (.fieldLink RX12 70 "CaseOrderModel" "thrown" "I") (by decide +kernel)
  have L_73 := hts (.fieldLink RX12 73 "CaseOrderModel" "taped" "I") (by decide +kernel)
  unfold f_X12_end at hf
  refine lv_aload_n hx hb dX12_end_0 rfl (lv_at hl 0 rfl) ?_
  refine lv_iconst (v := 0) hx hb dX12_end_1 (by decide) ?_
  refine g_put (ty := .int) hx hb hts i_X12 tyX12 tyX12_ok nmX12 hown hK hw 0 eR_c0 rfl 0 (by decide) L_70 (fun _ h => h) rfl (by decide +kernel) rfl rfl (Nat.le_of_ble_eq_true rfl) dX12_end_2 (fun H locs hw => ?_)
  have hw : Wo D ad (Aw ad 19 s.heap.size) (eR ad y 0 m_taped m_size m_to m_from m_kind m_number m_fault m_place m_name m_happenings m_newHappenings m_heard m_outs m_bounds a_tape a_happened a_many a_sort a_one a_other a_low a_high a_begins a_out a_behind a_ahead a_most a_left a_far a_quarrel a_early a_earlyLast) s.heap H locs := hw
  refine lv_iload_n hx hb dX12_end_5 rfl (lv_at hl 1 rfl) ?_
  refine lv_if_lt (tgt := 17) hx hb dX12_end_6 (by decide) (fun c1 => ?_) (fun c1 => ?_)
  · have hf := it_p c1 hf
    refine lv_iconst (v := 0) hx hb dX12_end_17 (by decide) ?_
    obtain rfl := so hf
    exact W.zret (v := 0) hx hb hr rfl (fun t ht _ => g_end hw t ht) hw.2.2.2.2 dX12_end_18
  · have hf := it_n c1 hf
    refine lv_iload_n hx hb dX12_end_9 rfl (lv_at hl 1 rfl) ?_
    refine lv_aload_n hx hb dX12_end_10 rfl (lv_at hl 0 rfl) ?_
    refine g_get hx hb hts i_X12 hown hK hw 0 eR_c0 rfl 2 (by decide) L_73 (fun _ h => h) rfl dX12_end_11 ?_
    refine lv_icmp_le (tgt := 19) hx hb dX12_end_14 (by decide) (fun c2 => ?_) (fun c2 => ?_)
    · have hf := it_p c2 hf
      refine lv_aload_n hx hb dX12_end_19 rfl (lv_at hl 0 rfl) ?_
      refine lv_iload_n hx hb dX12_end_20 rfl (lv_at hl 1 rfl) ?_
      refine g_put (ty := .int) hx hb hts i_X12 tyX12 tyX12_ok nmX12 hown hK hw 0 eR_c0 rfl 2 (by decide) L_73 (fun _ h => h) rfl (by decide +kernel) rfl rfl (Nat.le_of_ble_eq_true rfl) dX12_end_21 (fun H locs hw => ?_)
      have hw : Wo D ad (Aw ad 19 s.heap.size) (eR ad y 0 p1 m_size m_to m_from m_kind m_number m_fault m_place m_name m_happenings m_newHappenings m_heard m_outs m_bounds a_tape a_happened a_many a_sort a_one a_other a_low a_high a_begins a_out a_behind a_ahead a_most a_left a_far a_quarrel a_early a_earlyLast) s.heap H locs := hw
      refine lv_iconst (v := 1) hx hb dX12_end_24 (by decide) ?_
      obtain rfl := so hf
      exact W.zret (v := 1) hx hb hr rfl (fun t ht _ => g_end hw t ht) hw.2.2.2.2 dX12_end_25
    · have hf := it_n c2 hf
      refine lv_iconst (v := 0) hx hb dX12_end_17 (by decide) ?_
      obtain rfl := so hf
      exact W.zret (v := 0) hx hb hr rfl (fun t ht _ => g_end hw t ht) hw.2.2.2.2 dX12_end_18
set_option maxHeartbeats 4000000 in
theorem k_X12_end {l : Launch} {D : va_G} {ad : Nat → Nat} {y : Nat → ClassId} {m_thrown : Int32} {m_taped : Int32} {m_size : Int32} {m_to : Int32} {m_from : Int32} {m_kind : Int32} {m_number : Int32} {m_fault : Int32} {m_place : Int32} {m_name : Int64} {m_happenings : Int32} {m_newHappenings : Int32} {m_heard : Int32} {m_outs : Int32} {m_bounds : Int32} {a_tape : Nat → Int32} {a_happened : Nat → Int64} {a_many : Nat → Int32} {a_sort : Nat → Int32} {a_one : Nat → Int32} {a_other : Nat → Int32} {a_low : Nat → Int32} {a_high : Nat → Int32} {a_begins : Nat → Int32} {a_out : Nat → Int32} {a_behind : Nat → Int32} {a_ahead : Nat → Int32} {a_most : Nat → Int32} {a_left : Nat → Int32} {a_far : Nat → Int32} {a_quarrel : Nat → Int32} {a_early : Nat → Int32} {a_earlyLast : Nat → Int32} {p1 : Int32} {res : Int32 × Int32 × Int32} (hf : f_X12_end m_thrown m_taped p1 = some res) : CTi l yX12_end wsX12_end rm_X12_end D ad 19 (tyL y) (STR ad) (eR ad y m_thrown m_taped m_size m_to m_from m_kind m_number m_fault m_place m_name m_happenings m_newHappenings m_heard m_outs m_bounds a_tape a_happened a_many a_sort a_one a_other a_low a_high a_begins a_out a_behind a_ahead a_most a_left a_far a_quarrel a_early a_earlyLast) (eR ad y res.2.1 res.2.2 m_size m_to m_from m_kind m_number m_fault m_place m_name m_happenings m_newHappenings m_heard m_outs m_bounds a_tape a_happened a_many a_sort a_one a_other a_low a_high a_begins a_out a_behind a_ahead a_most a_left a_far a_quarrel a_early a_earlyLast) [.ref (ad 0), .int p1] res.1 := by
  intro sz
  refine Met.ofW (cc := cX12_end) (maxL := 2) (ret := (some .boolean)) (by decide) rfl ?_
  intro p e s m args below meth c s₁ B hml hv
  obtain ⟨rfl, hsz, hP, hK, hD0, hst⟩ := hv
  subst hsz
  have C0 : CXT wsX12_end cX12_end RX12 2 (some .boolean) D (tyL y) (STR ad) p s m ([.ref (ad 0), .int p1] : List Value).toArray meth c := ⟨B.exec, B.bytes, B.returns, hml, findClass_of_methodNamed B.named, atoms_spec (ws := wsX12_end) B.pre, B.notSynchronized, hK, hst⟩
  have hw := g_start (n := 19) rfl hP hD0
  have hl := lv_entry ([.ref (ad 0), .int p1]) (n := 2) (Nat.le_of_ble_eq_true rfl)
  rw [lg_entry_eq]
  generalize (lg_sl ([.ref (ad 0), .int p1]) ++ List.replicate (2 - (lg_sl ([.ref (ad 0), .int p1])).length) Slot.unset).toArray = ls at hl ⊢
  have hl : lv_has ls 2 [(0, .ref (ad 0)), (1, .int p1)] := hl
  exact ke_X12_end C0 hf hw hl
abbrev rm_X12_byteAt : Room := { frames := 0, cells := 0, slots := 0, locals := 0 }
abbrev QM_X12_byteAt (below : List Frame) (args : Array Value) (s : State) (D : va_G) (ad : Nat → Nat) (y : Nat → ClassId) (m_thrown : Int32) (m_taped : Int32) (m_size : Int32) (m_to : Int32) (m_from : Int32) (m_kind : Int32) (m_number : Int32) (m_fault : Int32) (m_place : Int32) (m_name : Int64) (m_happenings : Int32) (m_newHappenings : Int32) (m_heard : Int32) (m_outs : Int32) (m_bounds : Int32) (a_tape : Nat → Int32) (a_happened : Nat → Int64) (a_many : Nat → Int32) (a_sort : Nat → Int32) (a_one : Nat → Int32) (a_other : Nat → Int32) (a_low : Nat → Int32) (a_high : Nat → Int32) (a_begins : Nat → Int32) (a_out : Nat → Int32) (a_behind : Nat → Int32) (a_ahead : Nat → Int32) (a_most : Nat → Int32) (a_left : Nat → Int32) (a_far : Nat → Int32) (a_quarrel : Nat → Int32) (a_early : Nat → Int32) (a_earlyLast : Nat → Int32) (res : Int32) : State → Prop := MQ below (va_Qi (fun x (_ : Unit) => x = res) (fun _ t => va_P D vwCl (wls ad (eR ad y m_thrown m_taped m_size m_to m_from m_kind m_number m_fault m_place m_name m_happenings m_newHappenings m_heard m_outs m_bounds a_tape a_happened a_many a_sort a_one a_other a_low a_high a_begins a_out a_behind a_ahead a_most a_left a_far a_quarrel a_early a_earlyLast)) t.heap) (Aw ad 19 s.heap.size)) args s 0 0 (Aw ad 19 s.heap.size)
set_option maxHeartbeats 4000000 in
set_option maxRecDepth 100000 in
theorem ke_X12_byteAt {p : Program} {l : Launch} {e : Env} {s : State} {m : MethodId} {args : Array Value} {below : List Frame} {meth : Method} {c : Code} {D : va_G} {ad : Nat → Nat} {y : Nat → ClassId} (C0 : CXT wsX12_byteAt cX12_byteAt RX12 3 (some .int) D (tyL y) (STR ad) p s m args meth c) {m_thrown : Int32} {m_taped : Int32} {m_size : Int32} {m_to : Int32} {m_from : Int32} {m_kind : Int32} {m_number : Int32} {m_fault : Int32} {m_place : Int32} {m_name : Int64} {m_happenings : Int32} {m_newHappenings : Int32} {m_heard : Int32} {m_outs : Int32} {m_bounds : Int32} {a_tape : Nat → Int32} {a_happened : Nat → Int64} {a_many : Nat → Int32} {a_sort : Nat → Int32} {a_one : Nat → Int32} {a_other : Nat → Int32} {a_low : Nat → Int32} {a_high : Nat → Int32} {a_begins : Nat → Int32} {a_out : Nat → Int32} {a_behind : Nat → Int32} {a_ahead : Nat → Int32} {a_most : Nat → Int32} {a_left : Nat → Int32} {a_far : Nat → Int32} {a_quarrel : Nat → Int32} {a_early : Nat → Int32} {a_earlyLast : Nat → Int32} {p1 : Int32} {p2 : Int32} {res : Int32} (hf : f_X12_byteAt a_tape p1 p2 = some res) {H : Heap} {locs : List Loc} {ls : Array Slot} (hw : Wo D ad (Aw ad 19 s.heap.size) (eR ad y m_thrown m_taped m_size m_to m_from m_kind m_number m_fault m_place m_name m_happenings m_newHappenings m_heard m_outs m_bounds a_tape a_happened a_many a_sort a_one a_other a_low a_high a_begins a_out a_behind a_ahead a_most a_left a_far a_quarrel a_early a_earlyLast) s.heap H locs) (hl : lv_has ls 3 [(0, .ref (ad 0)), (1, .int p1), (2, .int p2)]) : W p l e rm_X12_byteAt s m args below meth c H locs 0 0 (QM_X12_byteAt below args s D ad y (m_thrown) (m_taped) (m_size) (m_to) (m_from) (m_kind) (m_number) (m_fault) (m_place) (m_name) (m_happenings) (m_newHappenings) (m_heard) (m_outs) (m_bounds) (a_tape) (a_happened) (a_many) (a_sort) (a_one) (a_other) (a_low) (a_high) (a_begins) (a_out) (a_behind) (a_ahead) (a_most) (a_left) (a_far) (a_quarrel) (a_early) (a_earlyLast) res) (F0 m 0 ls []) := by
  obtain ⟨hx, hb, hr, hml, hown, hts, hlocks, hK, hst⟩ := id C0
  have i_X12 : ∀ w ∈ u_ws RX12 TX12 33, w ∈ wsX12_byteAt := by decide +kernel
  have L_7 := hts (.fieldLink RX12 7 "CaseOrderModel" "tape" "[I") (by decide +kernel)
  unfold f_X12_byteAt at hf
  refine lv_iload_n hx hb dX12_byteAt_0 rfl (lv_at hl 1 rfl) ?_
  refine lv_iload_n hx hb dX12_byteAt_1 rfl (lv_at hl 2 rfl) ?_
  refine lv_icmp_ge (tgt := 14) hx hb dX12_byteAt_2 (by decide) (fun c2 => ?_) (fun c2 => ?_)
  · have hf := it_p c2 hf
    refine lv_iconst (v := 0) hx hb dX12_byteAt_14 (by decide) ?_
    obtain rfl := so hf
    exact W.iret (v := 0) hx hb hr (fun t ht _ => g_end hw t ht) hw.2.2.2.2 dX12_byteAt_15
  · have hf := it_n c2 hf
    refine lv_aload_n hx hb dX12_byteAt_5 rfl (lv_at hl 0 rfl) ?_
    refine g_get hx hb hts i_X12 hown hK hw 0 eR_c0 rfl 1 (by decide) L_7 (fun _ h => h) rfl dX12_byteAt_6 ?_
    refine lv_iload_n hx hb dX12_byteAt_9 rfl (lv_at hl 1 rfl) ?_
    obtain ⟨g3, hf⟩ := gIn_some hf
    refine g_iald hx hb hK hw 1 1 eR_c1 rfl g3 dX12_byteAt_10 ?_
    refine lv_goto (tgt := 15) hx hb dX12_byteAt_11 (by decide) ?_
    obtain rfl := so hf
    exact W.iret (v := (a_tape (Int32.toNatClampNeg p1))) hx hb hr (fun t ht _ => g_end hw t ht) hw.2.2.2.2 dX12_byteAt_15
set_option maxHeartbeats 4000000 in
theorem k_X12_byteAt {l : Launch} {D : va_G} {ad : Nat → Nat} {y : Nat → ClassId} {m_thrown : Int32} {m_taped : Int32} {m_size : Int32} {m_to : Int32} {m_from : Int32} {m_kind : Int32} {m_number : Int32} {m_fault : Int32} {m_place : Int32} {m_name : Int64} {m_happenings : Int32} {m_newHappenings : Int32} {m_heard : Int32} {m_outs : Int32} {m_bounds : Int32} {a_tape : Nat → Int32} {a_happened : Nat → Int64} {a_many : Nat → Int32} {a_sort : Nat → Int32} {a_one : Nat → Int32} {a_other : Nat → Int32} {a_low : Nat → Int32} {a_high : Nat → Int32} {a_begins : Nat → Int32} {a_out : Nat → Int32} {a_behind : Nat → Int32} {a_ahead : Nat → Int32} {a_most : Nat → Int32} {a_left : Nat → Int32} {a_far : Nat → Int32} {a_quarrel : Nat → Int32} {a_early : Nat → Int32} {a_earlyLast : Nat → Int32} {p1 : Int32} {p2 : Int32} {res : Int32} (hf : f_X12_byteAt a_tape p1 p2 = some res) : CTi l yX12_byteAt wsX12_byteAt rm_X12_byteAt D ad 19 (tyL y) (STR ad) (eR ad y m_thrown m_taped m_size m_to m_from m_kind m_number m_fault m_place m_name m_happenings m_newHappenings m_heard m_outs m_bounds a_tape a_happened a_many a_sort a_one a_other a_low a_high a_begins a_out a_behind a_ahead a_most a_left a_far a_quarrel a_early a_earlyLast) (eR ad y m_thrown m_taped m_size m_to m_from m_kind m_number m_fault m_place m_name m_happenings m_newHappenings m_heard m_outs m_bounds a_tape a_happened a_many a_sort a_one a_other a_low a_high a_begins a_out a_behind a_ahead a_most a_left a_far a_quarrel a_early a_earlyLast) [.ref (ad 0), .int p1, .int p2] res := by
  intro sz
  refine Met.ofW (cc := cX12_byteAt) (maxL := 3) (ret := (some .int)) (by decide) rfl ?_
  intro p e s m args below meth c s₁ B hml hv
  obtain ⟨rfl, hsz, hP, hK, hD0, hst⟩ := hv
  subst hsz
  have C0 : CXT wsX12_byteAt cX12_byteAt RX12 3 (some .int) D (tyL y) (STR ad) p s m ([.ref (ad 0), .int p1, .int p2] : List Value).toArray meth c := ⟨B.exec, B.bytes, B.returns, hml, findClass_of_methodNamed B.named, atoms_spec (ws := wsX12_byteAt) B.pre, B.notSynchronized, hK, hst⟩
  have hw := g_start (n := 19) rfl hP hD0
  have hl := lv_entry ([.ref (ad 0), .int p1, .int p2]) (n := 3) (Nat.le_of_ble_eq_true rfl)
  rw [lg_entry_eq]
  generalize (lg_sl ([.ref (ad 0), .int p1, .int p2]) ++ List.replicate (3 - (lg_sl ([.ref (ad 0), .int p1, .int p2])).length) Slot.unset).toArray = ls at hl ⊢
  have hl : lv_has ls 3 [(0, .ref (ad 0)), (1, .int p1), (2, .int p2)] := hl
  exact ke_X12_byteAt C0 hf hw hl
abbrev rm_X12_isDigit : Room := { frames := 0, cells := 0, slots := 0, locals := 0 }
abbrev QM_X12_isDigit (below : List Frame) (args : Array Value) (s : State) (D : va_G) (ad : Nat → Nat) (y : Nat → ClassId) (m_thrown : Int32) (m_taped : Int32) (m_size : Int32) (m_to : Int32) (m_from : Int32) (m_kind : Int32) (m_number : Int32) (m_fault : Int32) (m_place : Int32) (m_name : Int64) (m_happenings : Int32) (m_newHappenings : Int32) (m_heard : Int32) (m_outs : Int32) (m_bounds : Int32) (a_tape : Nat → Int32) (a_happened : Nat → Int64) (a_many : Nat → Int32) (a_sort : Nat → Int32) (a_one : Nat → Int32) (a_other : Nat → Int32) (a_low : Nat → Int32) (a_high : Nat → Int32) (a_begins : Nat → Int32) (a_out : Nat → Int32) (a_behind : Nat → Int32) (a_ahead : Nat → Int32) (a_most : Nat → Int32) (a_left : Nat → Int32) (a_far : Nat → Int32) (a_quarrel : Nat → Int32) (a_early : Nat → Int32) (a_earlyLast : Nat → Int32) (res : Int32) : State → Prop := MQ below (va_Qi (fun x (_ : Unit) => x = res) (fun _ t => va_P D vwCl (wls ad (eR ad y m_thrown m_taped m_size m_to m_from m_kind m_number m_fault m_place m_name m_happenings m_newHappenings m_heard m_outs m_bounds a_tape a_happened a_many a_sort a_one a_other a_low a_high a_begins a_out a_behind a_ahead a_most a_left a_far a_quarrel a_early a_earlyLast)) t.heap) (Aw ad 19 s.heap.size)) args s 0 0 (Aw ad 19 s.heap.size)
set_option maxHeartbeats 4000000 in
set_option maxRecDepth 100000 in
theorem ke_X12_isDigit {p : Program} {l : Launch} {e : Env} {s : State} {m : MethodId} {args : Array Value} {below : List Frame} {meth : Method} {c : Code} {D : va_G} {ad : Nat → Nat} {y : Nat → ClassId} (C0 : CXT wsX12_isDigit cX12_isDigit RX12 1 (some .boolean) D (tyL y) (STR ad) p s m args meth c) {m_thrown : Int32} {m_taped : Int32} {m_size : Int32} {m_to : Int32} {m_from : Int32} {m_kind : Int32} {m_number : Int32} {m_fault : Int32} {m_place : Int32} {m_name : Int64} {m_happenings : Int32} {m_newHappenings : Int32} {m_heard : Int32} {m_outs : Int32} {m_bounds : Int32} {a_tape : Nat → Int32} {a_happened : Nat → Int64} {a_many : Nat → Int32} {a_sort : Nat → Int32} {a_one : Nat → Int32} {a_other : Nat → Int32} {a_low : Nat → Int32} {a_high : Nat → Int32} {a_begins : Nat → Int32} {a_out : Nat → Int32} {a_behind : Nat → Int32} {a_ahead : Nat → Int32} {a_most : Nat → Int32} {a_left : Nat → Int32} {a_far : Nat → Int32} {a_quarrel : Nat → Int32} {a_early : Nat → Int32} {a_earlyLast : Nat → Int32} {p0 : Int32} {res : Int32} (hf : f_X12_isDigit p0 = some res) {H : Heap} {locs : List Loc} {ls : Array Slot} (hw : Wo D ad (Aw ad 19 s.heap.size) (eR ad y m_thrown m_taped m_size m_to m_from m_kind m_number m_fault m_place m_name m_happenings m_newHappenings m_heard m_outs m_bounds a_tape a_happened a_many a_sort a_one a_other a_low a_high a_begins a_out a_behind a_ahead a_most a_left a_far a_quarrel a_early a_earlyLast) s.heap H locs) (hl : lv_has ls 1 [(0, .int p0)]) : W p l e rm_X12_isDigit s m args below meth c H locs 0 0 (QM_X12_isDigit below args s D ad y (m_thrown) (m_taped) (m_size) (m_to) (m_from) (m_kind) (m_number) (m_fault) (m_place) (m_name) (m_happenings) (m_newHappenings) (m_heard) (m_outs) (m_bounds) (a_tape) (a_happened) (a_many) (a_sort) (a_one) (a_other) (a_low) (a_high) (a_begins) (a_out) (a_behind) (a_ahead) (a_most) (a_left) (a_far) (a_quarrel) (a_early) (a_earlyLast) res) (F0 m 0 ls []) := by
  obtain ⟨hx, hb, hr, hml, hown, hts, hlocks, hK, hst⟩ := id C0
  unfold f_X12_isDigit at hf
  refine lv_iload_n hx hb dX12_isDigit_0 rfl (lv_at hl 0 rfl) ?_
  refine lv_bipush (v := 48) hx hb dX12_isDigit_1 (by decide) ?_
  refine lv_icmp_lt (tgt := 16) hx hb dX12_isDigit_3 (by decide) (fun c1 => ?_) (fun c1 => ?_)
  · have hf := it_p c1 hf
    refine lv_iconst (v := 0) hx hb dX12_isDigit_16 (by decide) ?_
    obtain rfl := so hf
    exact W.zret (v := 0) hx hb hr rfl (fun t ht _ => g_end hw t ht) hw.2.2.2.2 dX12_isDigit_17
  · have hf := it_n c1 hf
    refine lv_iload_n hx hb dX12_isDigit_6 rfl (lv_at hl 0 rfl) ?_
    refine lv_bipush (v := 57) hx hb dX12_isDigit_7 (by decide) ?_
    refine lv_icmp_gt (tgt := 16) hx hb dX12_isDigit_9 (by decide) (fun c2 => ?_) (fun c2 => ?_)
    · have hf := it_p c2 hf
      refine lv_iconst (v := 0) hx hb dX12_isDigit_16 (by decide) ?_
      obtain rfl := so hf
      exact W.zret (v := 0) hx hb hr rfl (fun t ht _ => g_end hw t ht) hw.2.2.2.2 dX12_isDigit_17
    · have hf := it_n c2 hf
      refine lv_iconst (v := 1) hx hb dX12_isDigit_12 (by decide) ?_
      refine lv_goto (tgt := 17) hx hb dX12_isDigit_13 (by decide) ?_
      obtain rfl := so hf
      exact W.zret (v := 1) hx hb hr rfl (fun t ht _ => g_end hw t ht) hw.2.2.2.2 dX12_isDigit_17
set_option maxHeartbeats 4000000 in
theorem k_X12_isDigit {l : Launch} {D : va_G} {ad : Nat → Nat} {y : Nat → ClassId} {m_thrown : Int32} {m_taped : Int32} {m_size : Int32} {m_to : Int32} {m_from : Int32} {m_kind : Int32} {m_number : Int32} {m_fault : Int32} {m_place : Int32} {m_name : Int64} {m_happenings : Int32} {m_newHappenings : Int32} {m_heard : Int32} {m_outs : Int32} {m_bounds : Int32} {a_tape : Nat → Int32} {a_happened : Nat → Int64} {a_many : Nat → Int32} {a_sort : Nat → Int32} {a_one : Nat → Int32} {a_other : Nat → Int32} {a_low : Nat → Int32} {a_high : Nat → Int32} {a_begins : Nat → Int32} {a_out : Nat → Int32} {a_behind : Nat → Int32} {a_ahead : Nat → Int32} {a_most : Nat → Int32} {a_left : Nat → Int32} {a_far : Nat → Int32} {a_quarrel : Nat → Int32} {a_early : Nat → Int32} {a_earlyLast : Nat → Int32} {p0 : Int32} {res : Int32} (hf : f_X12_isDigit p0 = some res) : CTi l yX12_isDigit wsX12_isDigit rm_X12_isDigit D ad 19 (tyL y) (STR ad) (eR ad y m_thrown m_taped m_size m_to m_from m_kind m_number m_fault m_place m_name m_happenings m_newHappenings m_heard m_outs m_bounds a_tape a_happened a_many a_sort a_one a_other a_low a_high a_begins a_out a_behind a_ahead a_most a_left a_far a_quarrel a_early a_earlyLast) (eR ad y m_thrown m_taped m_size m_to m_from m_kind m_number m_fault m_place m_name m_happenings m_newHappenings m_heard m_outs m_bounds a_tape a_happened a_many a_sort a_one a_other a_low a_high a_begins a_out a_behind a_ahead a_most a_left a_far a_quarrel a_early a_earlyLast) [.int p0] res := by
  intro sz
  refine Met.ofW (cc := cX12_isDigit) (maxL := 1) (ret := (some .boolean)) (by decide) rfl ?_
  intro p e s m args below meth c s₁ B hml hv
  obtain ⟨rfl, hsz, hP, hK, hD0, hst⟩ := hv
  subst hsz
  have C0 : CXT wsX12_isDigit cX12_isDigit RX12 1 (some .boolean) D (tyL y) (STR ad) p s m ([.int p0] : List Value).toArray meth c := ⟨B.exec, B.bytes, B.returns, hml, findClass_of_methodNamed B.named, atoms_spec (ws := wsX12_isDigit) B.pre, B.notSynchronized, hK, hst⟩
  have hw := g_start (n := 19) rfl hP hD0
  have hl := lv_entry ([.int p0]) (n := 1) (Nat.le_of_ble_eq_true rfl)
  rw [lg_entry_eq]
  generalize (lg_sl ([.int p0]) ++ List.replicate (1 - (lg_sl ([.int p0])).length) Slot.unset).toArray = ls at hl ⊢
  have hl : lv_has ls 1 [(0, .int p0)] := hl
  exact ke_X12_isDigit C0 hf hw hl
abbrev rm_X12_isLetter : Room := { frames := 0, cells := 0, slots := 0, locals := 0 }
abbrev QM_X12_isLetter (below : List Frame) (args : Array Value) (s : State) (D : va_G) (ad : Nat → Nat) (y : Nat → ClassId) (m_thrown : Int32) (m_taped : Int32) (m_size : Int32) (m_to : Int32) (m_from : Int32) (m_kind : Int32) (m_number : Int32) (m_fault : Int32) (m_place : Int32) (m_name : Int64) (m_happenings : Int32) (m_newHappenings : Int32) (m_heard : Int32) (m_outs : Int32) (m_bounds : Int32) (a_tape : Nat → Int32) (a_happened : Nat → Int64) (a_many : Nat → Int32) (a_sort : Nat → Int32) (a_one : Nat → Int32) (a_other : Nat → Int32) (a_low : Nat → Int32) (a_high : Nat → Int32) (a_begins : Nat → Int32) (a_out : Nat → Int32) (a_behind : Nat → Int32) (a_ahead : Nat → Int32) (a_most : Nat → Int32) (a_left : Nat → Int32) (a_far : Nat → Int32) (a_quarrel : Nat → Int32) (a_early : Nat → Int32) (a_earlyLast : Nat → Int32) (res : Int32) : State → Prop := MQ below (va_Qi (fun x (_ : Unit) => x = res) (fun _ t => va_P D vwCl (wls ad (eR ad y m_thrown m_taped m_size m_to m_from m_kind m_number m_fault m_place m_name m_happenings m_newHappenings m_heard m_outs m_bounds a_tape a_happened a_many a_sort a_one a_other a_low a_high a_begins a_out a_behind a_ahead a_most a_left a_far a_quarrel a_early a_earlyLast)) t.heap) (Aw ad 19 s.heap.size)) args s 0 0 (Aw ad 19 s.heap.size)
set_option maxHeartbeats 4000000 in
set_option maxRecDepth 100000 in
theorem ke_X12_isLetter {p : Program} {l : Launch} {e : Env} {s : State} {m : MethodId} {args : Array Value} {below : List Frame} {meth : Method} {c : Code} {D : va_G} {ad : Nat → Nat} {y : Nat → ClassId} (C0 : CXT wsX12_isLetter cX12_isLetter RX12 1 (some .boolean) D (tyL y) (STR ad) p s m args meth c) {m_thrown : Int32} {m_taped : Int32} {m_size : Int32} {m_to : Int32} {m_from : Int32} {m_kind : Int32} {m_number : Int32} {m_fault : Int32} {m_place : Int32} {m_name : Int64} {m_happenings : Int32} {m_newHappenings : Int32} {m_heard : Int32} {m_outs : Int32} {m_bounds : Int32} {a_tape : Nat → Int32} {a_happened : Nat → Int64} {a_many : Nat → Int32} {a_sort : Nat → Int32} {a_one : Nat → Int32} {a_other : Nat → Int32} {a_low : Nat → Int32} {a_high : Nat → Int32} {a_begins : Nat → Int32} {a_out : Nat → Int32} {a_behind : Nat → Int32} {a_ahead : Nat → Int32} {a_most : Nat → Int32} {a_left : Nat → Int32} {a_far : Nat → Int32} {a_quarrel : Nat → Int32} {a_early : Nat → Int32} {a_earlyLast : Nat → Int32} {p0 : Int32} {res : Int32} (hf : f_X12_isLetter p0 = some res) {H : Heap} {locs : List Loc} {ls : Array Slot} (hw : Wo D ad (Aw ad 19 s.heap.size) (eR ad y m_thrown m_taped m_size m_to m_from m_kind m_number m_fault m_place m_name m_happenings m_newHappenings m_heard m_outs m_bounds a_tape a_happened a_many a_sort a_one a_other a_low a_high a_begins a_out a_behind a_ahead a_most a_left a_far a_quarrel a_early a_earlyLast) s.heap H locs) (hl : lv_has ls 1 [(0, .int p0)]) : W p l e rm_X12_isLetter s m args below meth c H locs 0 0 (QM_X12_isLetter below args s D ad y (m_thrown) (m_taped) (m_size) (m_to) (m_from) (m_kind) (m_number) (m_fault) (m_place) (m_name) (m_happenings) (m_newHappenings) (m_heard) (m_outs) (m_bounds) (a_tape) (a_happened) (a_many) (a_sort) (a_one) (a_other) (a_low) (a_high) (a_begins) (a_out) (a_behind) (a_ahead) (a_most) (a_left) (a_far) (a_quarrel) (a_early) (a_earlyLast) res) (F0 m 0 ls []) := by
  obtain ⟨hx, hb, hr, hml, hown, hts, hlocks, hK, hst⟩ := id C0
  unfold f_X12_isLetter at hf
  refine lv_iload_n hx hb dX12_isLetter_0 rfl (lv_at hl 0 rfl) ?_
  refine lv_bipush (v := 97) hx hb dX12_isLetter_1 (by decide) ?_
  refine lv_icmp_lt (tgt := 16) hx hb dX12_isLetter_3 (by decide) (fun c1 => ?_) (fun c1 => ?_)
  · have hf := it_p c1 hf
    refine lv_iconst (v := 0) hx hb dX12_isLetter_16 (by decide) ?_
    obtain rfl := so hf
    exact W.zret (v := 0) hx hb hr rfl (fun t ht _ => g_end hw t ht) hw.2.2.2.2 dX12_isLetter_17
  · have hf := it_n c1 hf
    refine lv_iload_n hx hb dX12_isLetter_6 rfl (lv_at hl 0 rfl) ?_
    refine lv_bipush (v := 122) hx hb dX12_isLetter_7 (by decide) ?_
    refine lv_icmp_gt (tgt := 16) hx hb dX12_isLetter_9 (by decide) (fun c2 => ?_) (fun c2 => ?_)
    · have hf := it_p c2 hf
      refine lv_iconst (v := 0) hx hb dX12_isLetter_16 (by decide) ?_
      obtain rfl := so hf
      exact W.zret (v := 0) hx hb hr rfl (fun t ht _ => g_end hw t ht) hw.2.2.2.2 dX12_isLetter_17
    · have hf := it_n c2 hf
      refine lv_iconst (v := 1) hx hb dX12_isLetter_12 (by decide) ?_
      refine lv_goto (tgt := 17) hx hb dX12_isLetter_13 (by decide) ?_
      obtain rfl := so hf
      exact W.zret (v := 1) hx hb hr rfl (fun t ht _ => g_end hw t ht) hw.2.2.2.2 dX12_isLetter_17
set_option maxHeartbeats 4000000 in
theorem k_X12_isLetter {l : Launch} {D : va_G} {ad : Nat → Nat} {y : Nat → ClassId} {m_thrown : Int32} {m_taped : Int32} {m_size : Int32} {m_to : Int32} {m_from : Int32} {m_kind : Int32} {m_number : Int32} {m_fault : Int32} {m_place : Int32} {m_name : Int64} {m_happenings : Int32} {m_newHappenings : Int32} {m_heard : Int32} {m_outs : Int32} {m_bounds : Int32} {a_tape : Nat → Int32} {a_happened : Nat → Int64} {a_many : Nat → Int32} {a_sort : Nat → Int32} {a_one : Nat → Int32} {a_other : Nat → Int32} {a_low : Nat → Int32} {a_high : Nat → Int32} {a_begins : Nat → Int32} {a_out : Nat → Int32} {a_behind : Nat → Int32} {a_ahead : Nat → Int32} {a_most : Nat → Int32} {a_left : Nat → Int32} {a_far : Nat → Int32} {a_quarrel : Nat → Int32} {a_early : Nat → Int32} {a_earlyLast : Nat → Int32} {p0 : Int32} {res : Int32} (hf : f_X12_isLetter p0 = some res) : CTi l yX12_isLetter wsX12_isLetter rm_X12_isLetter D ad 19 (tyL y) (STR ad) (eR ad y m_thrown m_taped m_size m_to m_from m_kind m_number m_fault m_place m_name m_happenings m_newHappenings m_heard m_outs m_bounds a_tape a_happened a_many a_sort a_one a_other a_low a_high a_begins a_out a_behind a_ahead a_most a_left a_far a_quarrel a_early a_earlyLast) (eR ad y m_thrown m_taped m_size m_to m_from m_kind m_number m_fault m_place m_name m_happenings m_newHappenings m_heard m_outs m_bounds a_tape a_happened a_many a_sort a_one a_other a_low a_high a_begins a_out a_behind a_ahead a_most a_left a_far a_quarrel a_early a_earlyLast) [.int p0] res := by
  intro sz
  refine Met.ofW (cc := cX12_isLetter) (maxL := 1) (ret := (some .boolean)) (by decide) rfl ?_
  intro p e s m args below meth c s₁ B hml hv
  obtain ⟨rfl, hsz, hP, hK, hD0, hst⟩ := hv
  subst hsz
  have C0 : CXT wsX12_isLetter cX12_isLetter RX12 1 (some .boolean) D (tyL y) (STR ad) p s m ([.int p0] : List Value).toArray meth c := ⟨B.exec, B.bytes, B.returns, hml, findClass_of_methodNamed B.named, atoms_spec (ws := wsX12_isLetter) B.pre, B.notSynchronized, hK, hst⟩
  have hw := g_start (n := 19) rfl hP hD0
  have hl := lv_entry ([.int p0]) (n := 1) (Nat.le_of_ble_eq_true rfl)
  rw [lg_entry_eq]
  generalize (lg_sl ([.int p0]) ++ List.replicate (1 - (lg_sl ([.int p0])).length) Slot.unset).toArray = ls at hl ⊢
  have hl : lv_has ls 1 [(0, .int p0)] := hl
  exact ke_X12_isLetter C0 hf hw hl
abbrev rm_X12_blanks : Room := { frames := 0, cells := 0, slots := 0, locals := 0 }
abbrev QM_X12_blanks (below : List Frame) (args : Array Value) (s : State) (D : va_G) (ad : Nat → Nat) (y : Nat → ClassId) (m_thrown : Int32) (m_taped : Int32) (m_size : Int32) (m_from : Int32) (m_kind : Int32) (m_number : Int32) (m_fault : Int32) (m_place : Int32) (m_name : Int64) (m_happenings : Int32) (m_newHappenings : Int32) (m_heard : Int32) (m_outs : Int32) (m_bounds : Int32) (a_tape : Nat → Int32) (a_happened : Nat → Int64) (a_many : Nat → Int32) (a_sort : Nat → Int32) (a_one : Nat → Int32) (a_other : Nat → Int32) (a_low : Nat → Int32) (a_high : Nat → Int32) (a_begins : Nat → Int32) (a_out : Nat → Int32) (a_behind : Nat → Int32) (a_ahead : Nat → Int32) (a_most : Nat → Int32) (a_left : Nat → Int32) (a_far : Nat → Int32) (a_quarrel : Nat → Int32) (a_early : Nat → Int32) (a_earlyLast : Nat → Int32) (res : Int32) : State → Prop := MQ below (va_Qv (fun (_ : Unit) => True) (fun _ t => va_P D vwCl (wls ad (eR ad y m_thrown m_taped m_size res m_from m_kind m_number m_fault m_place m_name m_happenings m_newHappenings m_heard m_outs m_bounds a_tape a_happened a_many a_sort a_one a_other a_low a_high a_begins a_out a_behind a_ahead a_most a_left a_far a_quarrel a_early a_earlyLast)) t.heap) (Aw ad 19 s.heap.size)) args s 0 0 (Aw ad 19 s.heap.size)
set_option maxHeartbeats 4000000 in
set_option maxRecDepth 100000 in
theorem kb_X12_blanks_b39 {p : Program} {l : Launch} {e : Env} {s : State} {m : MethodId} {args : Array Value} {below : List Frame} {meth : Method} {c : Code} {D : va_G} {ad : Nat → Nat} {y : Nat → ClassId} (C0 : CXT wsX12_blanks cX12_blanks RX12 1 none D (tyL y) (STR ad) p s m args meth c) {m_thrown : Int32} {m_taped : Int32} {m_size : Int32} {m_to : Int32} {m_from : Int32} {m_kind : Int32} {m_number : Int32} {m_fault : Int32} {m_place : Int32} {m_name : Int64} {m_happenings : Int32} {m_newHappenings : Int32} {m_heard : Int32} {m_outs : Int32} {m_bounds : Int32} {a_tape : Nat → Int32} {a_happened : Nat → Int64} {a_many : Nat → Int32} {a_sort : Nat → Int32} {a_one : Nat → Int32} {a_other : Nat → Int32} {a_low : Nat → Int32} {a_high : Nat → Int32} {a_begins : Nat → Int32} {a_out : Nat → Int32} {a_behind : Nat → Int32} {a_ahead : Nat → Int32} {a_most : Nat → Int32} {a_left : Nat → Int32} {a_far : Nat → Int32} {a_quarrel : Nat → Int32} {a_early : Nat → Int32} {a_earlyLast : Nat → Int32}     {res : Int32} {o : (Int32) ⊕ (Int32)} (hf : f_X12_blanks_b39 m_size m_to a_tape = some o) {H : Heap} {locs : List Loc} {ls : Array Slot} (hw : Wo D ad (Aw ad 19 s.heap.size) (eR ad y m_thrown m_taped m_size m_to m_from m_kind m_number m_fault m_place m_name m_happenings m_newHappenings m_heard m_outs m_bounds a_tape a_happened a_many a_sort a_one a_other a_low a_high a_begins a_out a_behind a_ahead a_most a_left a_far a_quarrel a_early a_earlyLast) s.heap H locs) (hl : lv_has ls 1 [(0, .ref (ad 0))]) (hcont : ∀ s2, o = .inl s2 → ∀ (H : Heap) (locs : List Loc) (ls : Array Slot), Wo D ad (Aw ad 19 s.heap.size) (eR ad y m_thrown m_taped m_size s2 m_from m_kind m_number m_fault m_place m_name m_happenings m_newHappenings m_heard m_outs m_bounds a_tape a_happened a_many a_sort a_one a_other a_low a_high a_begins a_out a_behind a_ahead a_most a_left a_far a_quarrel a_early a_earlyLast) s.heap H locs → lv_has ls 1 [(0, .ref (ad 0))] → W p l e rm_X12_blanks s m args below meth c H locs 0 0 (QM_X12_blanks below args s D ad y (m_thrown) (m_taped) (m_size) (m_from) (m_kind) (m_number) (m_fault) (m_place) (m_name) (m_happenings) (m_newHappenings) (m_heard) (m_outs) (m_bounds) (a_tape) (a_happened) (a_many) (a_sort) (a_one) (a_other) (a_low) (a_high) (a_begins) (a_out) (a_behind) (a_ahead) (a_most) (a_left) (a_far) (a_quarrel) (a_early) (a_earlyLast) res) (F0 m 0 ls [])) (hexit : ∀ t, o = .inr t → ∀ (H : Heap) (locs : List Loc) (ls : Array Slot), Wo D ad (Aw ad 19 s.heap.size) (eR ad y m_thrown m_taped m_size t m_from m_kind m_number m_fault m_place m_name m_happenings m_newHappenings m_heard m_outs m_bounds a_tape a_happened a_many a_sort a_one a_other a_low a_high a_begins a_out a_behind a_ahead a_most a_left a_far a_quarrel a_early a_earlyLast) s.heap H locs → lv_has ls 1 [(0, .ref (ad 0))] → W p l e rm_X12_blanks s m args below meth c H locs 0 0 (QM_X12_blanks below args s D ad y (m_thrown) (m_taped) (m_size) (m_from) (m_kind) (m_number) (m_fault) (m_place) (m_name) (m_happenings) (m_newHappenings) (m_heard) (m_outs) (m_bounds) (a_tape) (a_happened) (a_many) (a_sort) (a_one) (a_other) (a_low) (a_high) (a_begins) (a_out) (a_behind) (a_ahead) (a_most) (a_left) (a_far) (a_quarrel) (a_early) (a_earlyLast) res) (F0 m 52 ls [])) : W p l e rm_X12_blanks s m args below meth c H locs 0 0 (QM_X12_blanks below args s D ad y (m_thrown) (m_taped) (m_size) (m_from) (m_kind) (m_number) (m_fault) (m_place) (m_name) (m_happenings) (m_newHappenings) (m_heard) (m_outs) (m_bounds) (a_tape) (a_happened) (a_many) (a_sort) (a_one) (a_other) (a_low) (a_high) (a_begins) (a_out) (a_behind) (a_ahead) (a_most) (a_left) (a_far) (a_quarrel) (a_early) (a_earlyLast) res) (F0 m 39 ls []) := by
  obtain ⟨hx, hb, hr, hml, hown, hts, hlocks, hK, hst⟩ := id C0
  have i_X12 : ∀ w ∈ u_ws RX12 TX12 33, w ∈ wsX12_blanks := by decide +kernel
  have L_80 := hts (.fieldLink RX12 80 "CaseOrderModel" "to" "I") (by decide +kernel)
  unfold f_X12_blanks_b39 at hf
  refine lv_aload_n hx hb dX12_blanks_39 rfl (lv_at hl 0 rfl) ?_
  refine lv_dup hx hb dX12_blanks_40 rfl ?_
  refine g_get hx hb hts i_X12 hown hK hw 0 eR_c0 rfl 4 (by decide) L_80 (fun _ h => h) rfl dX12_blanks_41 ?_
  refine lv_iconst (v := 1) hx hb dX12_blanks_44 (by decide) ?_
  refine lv_iadd hx hb dX12_blanks_45 ?_
  refine g_put (ty := .int) hx hb hts i_X12 tyX12 tyX12_ok nmX12 hown hK hw 0 eR_c0 rfl 4 (by decide) L_80 (fun _ h => h) rfl (by decide +kernel) rfl rfl (Nat.le_of_ble_eq_true rfl) dX12_blanks_46 (fun H locs hw => ?_)
  have hw : Wo D ad (Aw ad 19 s.heap.size) (eR ad y m_thrown m_taped m_size (m_to + 1) m_from m_kind m_number m_fault m_place m_name m_happenings m_newHappenings m_heard m_outs m_bounds a_tape a_happened a_many a_sort a_one a_other a_low a_high a_begins a_out a_behind a_ahead a_most a_left a_far a_quarrel a_early a_earlyLast) s.heap H locs := hw
  refine lv_goto (tgt := 0) hx hb dX12_blanks_49 (by decide) ?_
  exact hcont _ (so hf).symm _ _ _ hw (lv_sub hl [0] rfl)
set_option maxHeartbeats 4000000 in
set_option maxRecDepth 100000 in
theorem kw_X12_blanks_0 {p : Program} {l : Launch} {e : Env} {s : State} {m : MethodId} {args : Array Value} {below : List Frame} {meth : Method} {c : Code} {D : va_G} {ad : Nat → Nat} {y : Nat → ClassId} (C0 : CXT wsX12_blanks cX12_blanks RX12 1 none D (tyL y) (STR ad) p s m args meth c) {m_thrown : Int32} {m_taped : Int32} {m_size : Int32} {m_from : Int32} {m_kind : Int32} {m_number : Int32} {m_fault : Int32} {m_place : Int32} {m_name : Int64} {m_happenings : Int32} {m_newHappenings : Int32} {m_heard : Int32} {m_outs : Int32} {m_bounds : Int32} {a_tape : Nat → Int32} {a_happened : Nat → Int64} {a_many : Nat → Int32} {a_sort : Nat → Int32} {a_one : Nat → Int32} {a_other : Nat → Int32} {a_low : Nat → Int32} {a_high : Nat → Int32} {a_begins : Nat → Int32} {a_out : Nat → Int32} {a_behind : Nat → Int32} {a_ahead : Nat → Int32} {a_most : Nat → Int32} {a_left : Nat → Int32} {a_far : Nat → Int32} {a_quarrel : Nat → Int32} {a_early : Nat → Int32} {a_earlyLast : Nat → Int32}  {res : Int32} {sg : Int32} {o : (Int32) ⊕ (Int32)} (hf : f_X12_blanks_l0 m_size a_tape sg = some o) {H : Heap} {locs : List Loc} {ls : Array Slot} (hw : Wo D ad (Aw ad 19 s.heap.size) (eR ad y m_thrown m_taped m_size sg m_from m_kind m_number m_fault m_place m_name m_happenings m_newHappenings m_heard m_outs m_bounds a_tape a_happened a_many a_sort a_one a_other a_low a_high a_begins a_out a_behind a_ahead a_most a_left a_far a_quarrel a_early a_earlyLast) s.heap H locs) (hl : lv_has ls 1 [(0, .ref (ad 0))]) (hcont : ∀ s2, o = .inl s2 → ∀ (H : Heap) (locs : List Loc) (ls : Array Slot), Wo D ad (Aw ad 19 s.heap.size) (eR ad y m_thrown m_taped m_size s2 m_from m_kind m_number m_fault m_place m_name m_happenings m_newHappenings m_heard m_outs m_bounds a_tape a_happened a_many a_sort a_one a_other a_low a_high a_begins a_out a_behind a_ahead a_most a_left a_far a_quarrel a_early a_earlyLast) s.heap H locs → lv_has ls 1 [(0, .ref (ad 0))] → W p l e rm_X12_blanks s m args below meth c H locs 0 0 (QM_X12_blanks below args s D ad y (m_thrown) (m_taped) (m_size) (m_from) (m_kind) (m_number) (m_fault) (m_place) (m_name) (m_happenings) (m_newHappenings) (m_heard) (m_outs) (m_bounds) (a_tape) (a_happened) (a_many) (a_sort) (a_one) (a_other) (a_low) (a_high) (a_begins) (a_out) (a_behind) (a_ahead) (a_most) (a_left) (a_far) (a_quarrel) (a_early) (a_earlyLast) res) (F0 m 0 ls [])) (hexit : ∀ t, o = .inr t → ∀ (H : Heap) (locs : List Loc) (ls : Array Slot), Wo D ad (Aw ad 19 s.heap.size) (eR ad y m_thrown m_taped m_size t m_from m_kind m_number m_fault m_place m_name m_happenings m_newHappenings m_heard m_outs m_bounds a_tape a_happened a_many a_sort a_one a_other a_low a_high a_begins a_out a_behind a_ahead a_most a_left a_far a_quarrel a_early a_earlyLast) s.heap H locs → lv_has ls 1 [(0, .ref (ad 0))] → W p l e rm_X12_blanks s m args below meth c H locs 0 0 (QM_X12_blanks below args s D ad y (m_thrown) (m_taped) (m_size) (m_from) (m_kind) (m_number) (m_fault) (m_place) (m_name) (m_happenings) (m_newHappenings) (m_heard) (m_outs) (m_bounds) (a_tape) (a_happened) (a_many) (a_sort) (a_one) (a_other) (a_low) (a_high) (a_begins) (a_out) (a_behind) (a_ahead) (a_most) (a_left) (a_far) (a_quarrel) (a_early) (a_earlyLast) res) (F0 m 52 ls [])) : W p l e rm_X12_blanks s m args below meth c H locs 0 0 (QM_X12_blanks below args s D ad y (m_thrown) (m_taped) (m_size) (m_from) (m_kind) (m_number) (m_fault) (m_place) (m_name) (m_happenings) (m_newHappenings) (m_heard) (m_outs) (m_bounds) (a_tape) (a_happened) (a_many) (a_sort) (a_one) (a_other) (a_low) (a_high) (a_begins) (a_out) (a_behind) (a_ahead) (a_most) (a_left) (a_far) (a_quarrel) (a_early) (a_earlyLast) res) (F0 m 0 ls []) := by
  obtain ⟨hx, hb, hr, hml, hown, hts, hlocks, hK, hst⟩ := id C0
  have i_X12 : ∀ w ∈ u_ws RX12 TX12 33, w ∈ wsX12_blanks := by decide +kernel
  have L_80 := hts (.fieldLink RX12 80 "CaseOrderModel" "to" "I") (by decide +kernel)
  have L_83 := hts (.fieldLink RX12 83 "CaseOrderModel" "size" "I") (by decide +kernel)
  have L_7 := hts (.fieldLink RX12 7 "CaseOrderModel" "tape" "[I") (by decide +kernel)
  unfold f_X12_blanks_l0 at hf
  refine lv_aload_n hx hb dX12_blanks_0 rfl (lv_at hl 0 rfl) ?_
  refine g_get hx hb hts i_X12 hown hK hw 0 eR_c0 rfl 4 (by decide) L_80 (fun _ h => h) rfl dX12_blanks_1 ?_
  refine lv_aload_n hx hb dX12_blanks_4 rfl (lv_at hl 0 rfl) ?_
  refine g_get hx hb hts i_X12 hown hK hw 0 eR_c0 rfl 3 (by decide) L_83 (fun _ h => h) rfl dX12_blanks_5 ?_
  refine lv_icmp_ge (tgt := 52) hx hb dX12_blanks_8 (by decide) (fun c3 => ?_) (fun c3 => ?_)
  · have hf := it_p c3 hf
    exact hexit _ (so hf).symm _ _ _ hw (lv_sub hl [0] rfl)
  · have hf := it_n c3 hf
    refine lv_aload_n hx hb dX12_blanks_11 rfl (lv_at hl 0 rfl) ?_
    refine g_get hx hb hts i_X12 hown hK hw 0 eR_c0 rfl 1 (by decide) L_7 (fun _ h => h) rfl dX12_blanks_12 ?_
    refine lv_aload_n hx hb dX12_blanks_15 rfl (lv_at hl 0 rfl) ?_
    refine g_get hx hb hts i_X12 hown hK hw 0 eR_c0 rfl 4 (by decide) L_80 (fun _ h => h) rfl dX12_blanks_16 ?_
    obtain ⟨g4, hf⟩ := gIn_some hf
    refine g_iald hx hb hK hw 1 1 eR_c1 rfl g4 dX12_blanks_19 ?_
    refine lv_bipush (v := 32) hx hb dX12_blanks_20 (by decide) ?_
    refine lv_icmp_eq (tgt := 39) hx hb dX12_blanks_22 (by decide) (fun c5 => ?_) (fun c5 => ?_)
    · have hf := it_p c5 hf
      exact kb_X12_blanks_b39 C0 hf hw (lv_sub hl [0] rfl) hcont hexit
    · have hf := it_n c5 hf
      refine lv_aload_n hx hb dX12_blanks_25 rfl (lv_at hl 0 rfl) ?_
      refine g_get hx hb hts i_X12 hown hK hw 0 eR_c0 rfl 1 (by decide) L_7 (fun _ h => h) rfl dX12_blanks_26 ?_
      refine lv_aload_n hx hb dX12_blanks_29 rfl (lv_at hl 0 rfl) ?_
      refine g_get hx hb hts i_X12 hown hK hw 0 eR_c0 rfl 4 (by decide) L_80 (fun _ h => h) rfl dX12_blanks_30 ?_
      obtain ⟨g6, hf⟩ := gIn_some hf
      refine g_iald hx hb hK hw 1 1 eR_c1 rfl g6 dX12_blanks_33 ?_
      refine lv_bipush (v := 10) hx hb dX12_blanks_34 (by decide) ?_
      refine lv_icmp_ne (tgt := 52) hx hb dX12_blanks_36 (by decide) (fun c7 => ?_) (fun c7 => ?_)
      · have hf := it_n c7 hf
        exact hexit _ (so hf).symm _ _ _ hw (lv_sub hl [0] rfl)
      · have hf := it_p c7 hf
        exact kb_X12_blanks_b39 C0 hf hw (lv_sub hl [0] rfl) hcont hexit
set_option maxHeartbeats 4000000 in
theorem kl_X12_blanks_0 {p : Program} {l : Launch} {e : Env} {s : State} {m : MethodId} {args : Array Value} {below : List Frame} {meth : Method} {c : Code} {D : va_G} {ad : Nat → Nat} {y : Nat → ClassId} (C0 : CXT wsX12_blanks cX12_blanks RX12 1 none D (tyL y) (STR ad) p s m args meth c) {m_thrown : Int32} {m_taped : Int32} {m_size : Int32} {m_from : Int32} {m_kind : Int32} {m_number : Int32} {m_fault : Int32} {m_place : Int32} {m_name : Int64} {m_happenings : Int32} {m_newHappenings : Int32} {m_heard : Int32} {m_outs : Int32} {m_bounds : Int32} {a_tape : Nat → Int32} {a_happened : Nat → Int64} {a_many : Nat → Int32} {a_sort : Nat → Int32} {a_one : Nat → Int32} {a_other : Nat → Int32} {a_low : Nat → Int32} {a_high : Nat → Int32} {a_begins : Nat → Int32} {a_out : Nat → Int32} {a_behind : Nat → Int32} {a_ahead : Nat → Int32} {a_most : Nat → Int32} {a_left : Nat → Int32} {a_far : Nat → Int32} {a_quarrel : Nat → Int32} {a_early : Nat → Int32} {a_earlyLast : Nat → Int32}  {res : Int32} : ∀ (n : Nat) (sg : Int32) (q : Int32), lp (f_X12_blanks_l0 m_size a_tape) n sg = some q → ∀ (H : Heap) (locs : List Loc) (ls : Array Slot), Wo D ad (Aw ad 19 s.heap.size) (eR ad y m_thrown m_taped m_size sg m_from m_kind m_number m_fault m_place m_name m_happenings m_newHappenings m_heard m_outs m_bounds a_tape a_happened a_many a_sort a_one a_other a_low a_high a_begins a_out a_behind a_ahead a_most a_left a_far a_quarrel a_early a_earlyLast) s.heap H locs → lv_has ls 1 [(0, .ref (ad 0))] → (∀ (H : Heap) (locs : List Loc) (ls : Array Slot), Wo D ad (Aw ad 19 s.heap.size) (eR ad y m_thrown m_taped m_size q m_from m_kind m_number m_fault m_place m_name m_happenings m_newHappenings m_heard m_outs m_bounds a_tape a_happened a_many a_sort a_one a_other a_low a_high a_begins a_out a_behind a_ahead a_most a_left a_far a_quarrel a_early a_earlyLast) s.heap H locs → lv_has ls 1 [(0, .ref (ad 0))] → W p l e rm_X12_blanks s m args below meth c H locs 0 0 (QM_X12_blanks below args s D ad y (m_thrown) (m_taped) (m_size) (m_from) (m_kind) (m_number) (m_fault) (m_place) (m_name) (m_happenings) (m_newHappenings) (m_heard) (m_outs) (m_bounds) (a_tape) (a_happened) (a_many) (a_sort) (a_one) (a_other) (a_low) (a_high) (a_begins) (a_out) (a_behind) (a_ahead) (a_most) (a_left) (a_far) (a_quarrel) (a_early) (a_earlyLast) res) (F0 m 52 ls [])) → W p l e rm_X12_blanks s m args below meth c H locs 0 0 (QM_X12_blanks below args s D ad y (m_thrown) (m_taped) (m_size) (m_from) (m_kind) (m_number) (m_fault) (m_place) (m_name) (m_happenings) (m_newHappenings) (m_heard) (m_outs) (m_bounds) (a_tape) (a_happened) (a_many) (a_sort) (a_one) (a_other) (a_low) (a_high) (a_begins) (a_out) (a_behind) (a_ahead) (a_most) (a_left) (a_far) (a_quarrel) (a_early) (a_earlyLast) res) (F0 m 0 ls []) := by
  intro n
  induction n with
  | zero => intro sg q hf; exact absurd hf lp_zero
  | succ n ih =>
    intro sg q hf H locs ls hw hl hexit
    rcases lp_succ hf with ⟨sg2, h1, h2⟩ | h1
    · exact kw_X12_blanks_0 C0 h1 hw hl (fun s2 e2 H locs ls hw hl => by cases e2; exact ih _ q h2 H locs ls hw hl hexit) (fun t e2 => by cases e2)
    · exact kw_X12_blanks_0 C0 h1 hw hl (fun s2 e2 => by cases e2) (fun t e2 => by cases e2; exact hexit)
set_option maxHeartbeats 4000000 in
set_option maxRecDepth 100000 in
theorem ke_X12_blanks {p : Program} {l : Launch} {e : Env} {s : State} {m : MethodId} {args : Array Value} {below : List Frame} {meth : Method} {c : Code} {D : va_G} {ad : Nat → Nat} {y : Nat → ClassId} (C0 : CXT wsX12_blanks cX12_blanks RX12 1 none D (tyL y) (STR ad) p s m args meth c) {m_thrown : Int32} {m_taped : Int32} {m_size : Int32} {m_to : Int32} {m_from : Int32} {m_kind : Int32} {m_number : Int32} {m_fault : Int32} {m_place : Int32} {m_name : Int64} {m_happenings : Int32} {m_newHappenings : Int32} {m_heard : Int32} {m_outs : Int32} {m_bounds : Int32} {a_tape : Nat → Int32} {a_happened : Nat → Int64} {a_many : Nat → Int32} {a_sort : Nat → Int32} {a_one : Nat → Int32} {a_other : Nat → Int32} {a_low : Nat → Int32} {a_high : Nat → Int32} {a_begins : Nat → Int32} {a_out : Nat → Int32} {a_behind : Nat → Int32} {a_ahead : Nat → Int32} {a_most : Nat → Int32} {a_left : Nat → Int32} {a_far : Nat → Int32} {a_quarrel : Nat → Int32} {a_early : Nat → Int32} {a_earlyLast : Nat → Int32}  {res : Int32} (hf : f_X12_blanks m_size m_to a_tape = some res) {H : Heap} {locs : List Loc} {ls : Array Slot} (hw : Wo D ad (Aw ad 19 s.heap.size) (eR ad y m_thrown m_taped m_size m_to m_from m_kind m_number m_fault m_place m_name m_happenings m_newHappenings m_heard m_outs m_bounds a_tape a_happened a_many a_sort a_one a_other a_low a_high a_begins a_out a_behind a_ahead a_most a_left a_far a_quarrel a_early a_earlyLast) s.heap H locs) (hl : lv_has ls 1 [(0, .ref (ad 0))]) : W p l e rm_X12_blanks s m args below meth c H locs 0 0 (QM_X12_blanks below args s D ad y (m_thrown) (m_taped) (m_size) (m_from) (m_kind) (m_number) (m_fault) (m_place) (m_name) (m_happenings) (m_newHappenings) (m_heard) (m_outs) (m_bounds) (a_tape) (a_happened) (a_many) (a_sort) (a_one) (a_other) (a_low) (a_high) (a_begins) (a_out) (a_behind) (a_ahead) (a_most) (a_left) (a_far) (a_quarrel) (a_early) (a_earlyLast) res) (F0 m 0 ls []) := by
  obtain ⟨hx, hb, hr, hml, hown, hts, hlocks, hK, hst⟩ := id C0
  unfold f_X12_blanks at hf
  obtain ⟨q8, hq8, hf⟩ := bd hf
  refine kl_X12_blanks_0 C0 gFU _ _ hq8 _ _ _ hw (lv_sub hl [0] rfl) (fun H locs ls hw hl => ?_)
  have hw : Wo D ad (Aw ad 19 s.heap.size) (eR ad y m_thrown m_taped m_size q8 m_from m_kind m_number m_fault m_place m_name m_happenings m_newHappenings m_heard m_outs m_bounds a_tape a_happened a_many a_sort a_one a_other a_low a_high a_begins a_out a_behind a_ahead a_most a_left a_far a_quarrel a_early a_earlyLast) s.heap H locs := hw
  have hl : lv_has ls 1 [(0, .ref (ad 0))] := hl
  obtain rfl := so hf
  exact W.vret hx hb hr (fun t ht _ => g_endv hw t ht) hw.2.2.2.2 dX12_blanks_52
set_option maxHeartbeats 4000000 in
theorem k_X12_blanks {l : Launch} {D : va_G} {ad : Nat → Nat} {y : Nat → ClassId} {m_thrown : Int32} {m_taped : Int32} {m_size : Int32} {m_to : Int32} {m_from : Int32} {m_kind : Int32} {m_number : Int32} {m_fault : Int32} {m_place : Int32} {m_name : Int64} {m_happenings : Int32} {m_newHappenings : Int32} {m_heard : Int32} {m_outs : Int32} {m_bounds : Int32} {a_tape : Nat → Int32} {a_happened : Nat → Int64} {a_many : Nat → Int32} {a_sort : Nat → Int32} {a_one : Nat → Int32} {a_other : Nat → Int32} {a_low : Nat → Int32} {a_high : Nat → Int32} {a_begins : Nat → Int32} {a_out : Nat → Int32} {a_behind : Nat → Int32} {a_ahead : Nat → Int32} {a_most : Nat → Int32} {a_left : Nat → Int32} {a_far : Nat → Int32} {a_quarrel : Nat → Int32} {a_early : Nat → Int32} {a_earlyLast : Nat → Int32}  {res : Int32} (hf : f_X12_blanks m_size m_to a_tape = some res) : CTv l yX12_blanks wsX12_blanks rm_X12_blanks D ad 19 (tyL y) (STR ad) (eR ad y m_thrown m_taped m_size m_to m_from m_kind m_number m_fault m_place m_name m_happenings m_newHappenings m_heard m_outs m_bounds a_tape a_happened a_many a_sort a_one a_other a_low a_high a_begins a_out a_behind a_ahead a_most a_left a_far a_quarrel a_early a_earlyLast) (eR ad y m_thrown m_taped m_size res m_from m_kind m_number m_fault m_place m_name m_happenings m_newHappenings m_heard m_outs m_bounds a_tape a_happened a_many a_sort a_one a_other a_low a_high a_begins a_out a_behind a_ahead a_most a_left a_far a_quarrel a_early a_earlyLast) [.ref (ad 0)] := by
  intro sz
  refine Met.ofW (cc := cX12_blanks) (maxL := 1) (ret := none) (by decide) rfl ?_
  intro p e s m args below meth c s₁ B hml hv
  obtain ⟨rfl, hsz, hP, hK, hD0, hst⟩ := hv
  subst hsz
  have C0 : CXT wsX12_blanks cX12_blanks RX12 1 none D (tyL y) (STR ad) p s m ([.ref (ad 0)] : List Value).toArray meth c := ⟨B.exec, B.bytes, B.returns, hml, findClass_of_methodNamed B.named, atoms_spec (ws := wsX12_blanks) B.pre, B.notSynchronized, hK, hst⟩
  have hw := g_start (n := 19) rfl hP hD0
  have hl := lv_entry ([.ref (ad 0)]) (n := 1) (Nat.le_of_ble_eq_true rfl)
  rw [lg_entry_eq]
  generalize (lg_sl ([.ref (ad 0)]) ++ List.replicate (1 - (lg_sl ([.ref (ad 0)])).length) Slot.unset).toArray = ls at hl ⊢
  have hl : lv_has ls 1 [(0, .ref (ad 0))] := hl
  exact ke_X12_blanks C0 hf hw hl
abbrev rm_X12_readWord : Room := { frames := 1, cells := 0, slots := 0, locals := 22 }
abbrev QM_X12_readWord (below : List Frame) (args : Array Value) (s : State) (D : va_G) (ad : Nat → Nat) (y : Nat → ClassId) (m_thrown : Int32) (m_taped : Int32) (m_size : Int32) (m_from : Int32) (m_fault : Int32) (m_place : Int32) (m_happenings : Int32) (m_newHappenings : Int32) (m_heard : Int32) (m_outs : Int32) (m_bounds : Int32) (a_tape : Nat → Int32) (a_happened : Nat → Int64) (a_many : Nat → Int32) (a_sort : Nat → Int32) (a_one : Nat → Int32) (a_other : Nat → Int32) (a_low : Nat → Int32) (a_high : Nat → Int32) (a_begins : Nat → Int32) (a_out : Nat → Int32) (a_behind : Nat → Int32) (a_ahead : Nat → Int32) (a_most : Nat → Int32) (a_left : Nat → Int32) (a_far : Nat → Int32) (a_quarrel : Nat → Int32) (a_early : Nat → Int32) (a_earlyLast : Nat → Int32) (res : Int32 × Int32 × Int32 × Int64) : State → Prop := MQ below (va_Qv (fun (_ : Unit) => True) (fun _ t => va_P D vwCl (wls ad (eR ad y m_thrown m_taped m_size res.1 m_from res.2.1 res.2.2.1 m_fault m_place res.2.2.2 m_happenings m_newHappenings m_heard m_outs m_bounds a_tape a_happened a_many a_sort a_one a_other a_low a_high a_begins a_out a_behind a_ahead a_most a_left a_far a_quarrel a_early a_earlyLast)) t.heap) (Aw ad 19 s.heap.size)) args s 0 0 (Aw ad 19 s.heap.size)
set_option maxHeartbeats 4000000 in
set_option maxRecDepth 100000 in
theorem kb_X12_readWord_b151 {p : Program} {l : Launch} {e : Env} {s : State} {m : MethodId} {args : Array Value} {below : List Frame} {meth : Method} {c : Code} {D : va_G} {ad : Nat → Nat} {y : Nat → ClassId} (C0 : CXT wsX12_readWord cX12_readWord RX12 4 none D (tyL y) (STR ad) p s m args meth c) {m_thrown : Int32} {m_taped : Int32} {m_size : Int32} {m_to : Int32} {m_from : Int32} {m_kind : Int32} {m_number : Int32} {m_fault : Int32} {m_place : Int32} {m_name : Int64} {m_happenings : Int32} {m_newHappenings : Int32} {m_heard : Int32} {m_outs : Int32} {m_bounds : Int32} {a_tape : Nat → Int32} {a_happened : Nat → Int64} {a_many : Nat → Int32} {a_sort : Nat → Int32} {a_one : Nat → Int32} {a_other : Nat → Int32} {a_low : Nat → Int32} {a_high : Nat → Int32} {a_begins : Nat → Int32} {a_out : Nat → Int32} {a_behind : Nat → Int32} {a_ahead : Nat → Int32} {a_most : Nat → Int32} {a_left : Nat → Int32} {a_far : Nat → Int32} {a_quarrel : Nat → Int32} {a_early : Nat → Int32} {a_earlyLast : Nat → Int32} {u1 : Int32} {u2 : Int32}    {res : Int32 × Int32 × Int32 × Int64} {o : (Int32 × Int32 × Int32 × Int64) ⊕ (Int32 × Int32 × Int32 × Int64)} (hf : f_X12_readWord_b151 m_size m_to m_from m_kind m_number m_name a_tape u1 u2 = some o) {H : Heap} {locs : List Loc} {ls : Array Slot} (hw : Wo D ad (Aw ad 19 s.heap.size) (eR ad y m_thrown m_taped m_size m_to m_from m_kind m_number m_fault m_place m_name m_happenings m_newHappenings m_heard m_outs m_bounds a_tape a_happened a_many a_sort a_one a_other a_low a_high a_begins a_out a_behind a_ahead a_most a_left a_far a_quarrel a_early a_earlyLast) s.heap H locs) (hl : lv_has ls 4 [(0, .ref (ad 0)), (1, .int u1), (2, .int u2)]) (hcont : ∀ s2, o = .inl s2 → ∀ (H : Heap) (locs : List Loc) (ls : Array Slot), Wo D ad (Aw ad 19 s.heap.size) (eR ad y m_thrown m_taped m_size s2.2.1 m_from m_kind s2.2.2.1 m_fault m_place s2.2.2.2 m_happenings m_newHappenings m_heard m_outs m_bounds a_tape a_happened a_many a_sort a_one a_other a_low a_high a_begins a_out a_behind a_ahead a_most a_left a_far a_quarrel a_early a_earlyLast) s.heap H locs → lv_has ls 4 [(0, .ref (ad 0)), (1, .int u1), (2, .int s2.1)] → W p l e rm_X12_readWord s m args below meth c H locs 0 0 (QM_X12_readWord below args s D ad y (m_thrown) (m_taped) (m_size) (m_from) (m_fault) (m_place) (m_happenings) (m_newHappenings) (m_heard) (m_outs) (m_bounds) (a_tape) (a_happened) (a_many) (a_sort) (a_one) (a_other) (a_low) (a_high) (a_begins) (a_out) (a_behind) (a_ahead) (a_most) (a_left) (a_far) (a_quarrel) (a_early) (a_earlyLast) res) (F0 m 25 ls [])) (hexit : ∀ t, o = .inr t → ∀ (H : Heap) (locs : List Loc) (ls : Array Slot), Wo D ad (Aw ad 19 s.heap.size) (eR ad y m_thrown m_taped m_size t.2.1 m_from m_kind t.2.2.1 m_fault m_place t.2.2.2 m_happenings m_newHappenings m_heard m_outs m_bounds a_tape a_happened a_many a_sort a_one a_other a_low a_high a_begins a_out a_behind a_ahead a_most a_left a_far a_quarrel a_early a_earlyLast) s.heap H locs → lv_has ls 4 [(0, .ref (ad 0)), (1, .int u1), (2, .int t.1)] → W p l e rm_X12_readWord s m args below meth c H locs 0 0 (QM_X12_readWord below args s D ad y (m_thrown) (m_taped) (m_size) (m_from) (m_fault) (m_place) (m_happenings) (m_newHappenings) (m_heard) (m_outs) (m_bounds) (a_tape) (a_happened) (a_many) (a_sort) (a_one) (a_other) (a_low) (a_high) (a_begins) (a_out) (a_behind) (a_ahead) (a_most) (a_left) (a_far) (a_quarrel) (a_early) (a_earlyLast) res) (F0 m 164 ls [])) : W p l e rm_X12_readWord s m args below meth c H locs 0 0 (QM_X12_readWord below args s D ad y (m_thrown) (m_taped) (m_size) (m_from) (m_fault) (m_place) (m_happenings) (m_newHappenings) (m_heard) (m_outs) (m_bounds) (a_tape) (a_happened) (a_many) (a_sort) (a_one) (a_other) (a_low) (a_high) (a_begins) (a_out) (a_behind) (a_ahead) (a_most) (a_left) (a_far) (a_quarrel) (a_early) (a_earlyLast) res) (F0 m 151 ls []) := by
  obtain ⟨hx, hb, hr, hml, hown, hts, hlocks, hK, hst⟩ := id C0
  have i_X12 : ∀ w ∈ u_ws RX12 TX12 33, w ∈ wsX12_readWord := by decide +kernel
  have L_80 := hts (.fieldLink RX12 80 "CaseOrderModel" "to" "I") (by decide +kernel)
  unfold f_X12_readWord_b151 at hf
  refine lv_aload_n hx hb dX12_readWord_151 rfl (lv_at hl 0 rfl) ?_
  refine lv_dup hx hb dX12_readWord_152 rfl ?_
  refine g_get hx hb hts i_X12 hown hK hw 0 eR_c0 rfl 4 (by decide) L_80 (fun _ h => h) rfl dX12_readWord_153 ?_
  refine lv_iconst (v := 1) hx hb dX12_readWord_156 (by decide) ?_
  refine lv_iadd hx hb dX12_readWord_157 ?_
  refine g_put (ty := .int) hx hb hts i_X12 tyX12 tyX12_ok nmX12 hown hK hw 0 eR_c0 rfl 4 (by decide) L_80 (fun _ h => h) rfl (by decide +kernel) rfl rfl (Nat.le_of_ble_eq_true rfl) dX12_readWord_158 (fun H locs hw => ?_)
  have hw : Wo D ad (Aw ad 19 s.heap.size) (eR ad y m_thrown m_taped m_size (m_to + 1) m_from m_kind m_number m_fault m_place m_name m_happenings m_newHappenings m_heard m_outs m_bounds a_tape a_happened a_many a_sort a_one a_other a_low a_high a_begins a_out a_behind a_ahead a_most a_left a_far a_quarrel a_early a_earlyLast) s.heap H locs := hw
  refine lv_goto (tgt := 25) hx hb dX12_readWord_161 (by decide) ?_
  exact hcont _ (so hf).symm _ _ _ hw (lv_sub hl [0, 1, 2] rfl)
set_option maxHeartbeats 4000000 in
set_option maxRecDepth 100000 in
theorem kb_X12_readWord_b122 {p : Program} {l : Launch} {e : Env} {s : State} {m : MethodId} {args : Array Value} {below : List Frame} {meth : Method} {c : Code} {D : va_G} {ad : Nat → Nat} {y : Nat → ClassId} (C0 : CXT wsX12_readWord cX12_readWord RX12 4 none D (tyL y) (STR ad) p s m args meth c) {m_thrown : Int32} {m_taped : Int32} {m_size : Int32} {m_to : Int32} {m_from : Int32} {m_kind : Int32} {m_number : Int32} {m_fault : Int32} {m_place : Int32} {m_name : Int64} {m_happenings : Int32} {m_newHappenings : Int32} {m_heard : Int32} {m_outs : Int32} {m_bounds : Int32} {a_tape : Nat → Int32} {a_happened : Nat → Int64} {a_many : Nat → Int32} {a_sort : Nat → Int32} {a_one : Nat → Int32} {a_other : Nat → Int32} {a_low : Nat → Int32} {a_high : Nat → Int32} {a_begins : Nat → Int32} {a_out : Nat → Int32} {a_behind : Nat → Int32} {a_ahead : Nat → Int32} {a_most : Nat → Int32} {a_left : Nat → Int32} {a_far : Nat → Int32} {a_quarrel : Nat → Int32} {a_early : Nat → Int32} {a_earlyLast : Nat → Int32} {u1 : Int32} {u2 : Int32} {u3 : Int32}    {res : Int32 × Int32 × Int32 × Int64} {o : (Int32 × Int32 × Int32 × Int64) ⊕ (Int32 × Int32 × Int32 × Int64)} (hf : f_X12_readWord_b122 m_size m_to m_from m_kind m_number m_name a_tape u1 u2 u3 = some o) {H : Heap} {locs : List Loc} {ls : Array Slot} (hw : Wo D ad (Aw ad 19 s.heap.size) (eR ad y m_thrown m_taped m_size m_to m_from m_kind m_number m_fault m_place m_name m_happenings m_newHappenings m_heard m_outs m_bounds a_tape a_happened a_many a_sort a_one a_other a_low a_high a_begins a_out a_behind a_ahead a_most a_left a_far a_quarrel a_early a_earlyLast) s.heap H locs) (hl : lv_has ls 4 [(0, .ref (ad 0)), (1, .int u1), (2, .int u2), (3, .int u3)]) (hcont : ∀ s2, o = .inl s2 → ∀ (H : Heap) (locs : List Loc) (ls : Array Slot), Wo D ad (Aw ad 19 s.heap.size) (eR ad y m_thrown m_taped m_size s2.2.1 m_from m_kind s2.2.2.1 m_fault m_place s2.2.2.2 m_happenings m_newHappenings m_heard m_outs m_bounds a_tape a_happened a_many a_sort a_one a_other a_low a_high a_begins a_out a_behind a_ahead a_most a_left a_far a_quarrel a_early a_earlyLast) s.heap H locs → lv_has ls 4 [(0, .ref (ad 0)), (1, .int u1), (2, .int s2.1)] → W p l e rm_X12_readWord s m args below meth c H locs 0 0 (QM_X12_readWord below args s D ad y (m_thrown) (m_taped) (m_size) (m_from) (m_fault) (m_place) (m_happenings) (m_newHappenings) (m_heard) (m_outs) (m_bounds) (a_tape) (a_happened) (a_many) (a_sort) (a_one) (a_other) (a_low) (a_high) (a_begins) (a_out) (a_behind) (a_ahead) (a_most) (a_left) (a_far) (a_quarrel) (a_early) (a_earlyLast) res) (F0 m 25 ls [])) (hexit : ∀ t, o = .inr t → ∀ (H : Heap) (locs : List Loc) (ls : Array Slot), Wo D ad (Aw ad 19 s.heap.size) (eR ad y m_thrown m_taped m_size t.2.1 m_from m_kind t.2.2.1 m_fault m_place t.2.2.2 m_happenings m_newHappenings m_heard m_outs m_bounds a_tape a_happened a_many a_sort a_one a_other a_low a_high a_begins a_out a_behind a_ahead a_most a_left a_far a_quarrel a_early a_earlyLast) s.heap H locs → lv_has ls 4 [(0, .ref (ad 0)), (1, .int u1), (2, .int t.1)] → W p l e rm_X12_readWord s m args below meth c H locs 0 0 (QM_X12_readWord below args s D ad y (m_thrown) (m_taped) (m_size) (m_from) (m_fault) (m_place) (m_happenings) (m_newHappenings) (m_heard) (m_outs) (m_bounds) (a_tape) (a_happened) (a_many) (a_sort) (a_one) (a_other) (a_low) (a_high) (a_begins) (a_out) (a_behind) (a_ahead) (a_most) (a_left) (a_far) (a_quarrel) (a_early) (a_earlyLast) res) (F0 m 164 ls [])) : W p l e rm_X12_readWord s m args below meth c H locs 0 0 (QM_X12_readWord below args s D ad y (m_thrown) (m_taped) (m_size) (m_from) (m_fault) (m_place) (m_happenings) (m_newHappenings) (m_heard) (m_outs) (m_bounds) (a_tape) (a_happened) (a_many) (a_sort) (a_one) (a_other) (a_low) (a_high) (a_begins) (a_out) (a_behind) (a_ahead) (a_most) (a_left) (a_far) (a_quarrel) (a_early) (a_earlyLast) res) (F0 m 122 ls []) := by
  obtain ⟨hx, hb, hr, hml, hown, hts, hlocks, hK, hst⟩ := id C0
  have i_X12 : ∀ w ∈ u_ws RX12 TX12 33, w ∈ wsX12_readWord := by decide +kernel
  have L_80 := hts (.fieldLink RX12 80 "CaseOrderModel" "to" "I") (by decide +kernel)
  have L_89 := hts (.fieldLink RX12 89 "CaseOrderModel" "from" "I") (by decide +kernel)
  have L_109 := hts (.fieldLink RX12 109 "CaseOrderModel" "number" "I") (by decide +kernel)
  unfold f_X12_readWord_b122 at hf
  refine lv_aload_n hx hb dX12_readWord_122 rfl (lv_at hl 0 rfl) ?_
  refine g_get hx hb hts i_X12 hown hK hw 0 eR_c0 rfl 4 (by decide) L_80 (fun _ h => h) rfl dX12_readWord_123 ?_
  refine lv_aload_n hx hb dX12_readWord_126 rfl (lv_at hl 0 rfl) ?_
  refine g_get hx hb hts i_X12 hown hK hw 0 eR_c0 rfl 5 (by decide) L_89 (fun _ h => h) rfl dX12_readWord_127 ?_
  refine lv_isub hx hb dX12_readWord_130 ?_
  refine lv_iconst (v := 4) hx hb dX12_readWord_131 (by decide) ?_
  refine lv_icmp_ge (tgt := 151) hx hb dX12_readWord_132 (by decide) (fun c17 => ?_) (fun c17 => ?_)
  · have hf := it_p c17 hf
    exact kb_X12_readWord_b151 C0 hf hw (lv_sub hl [0, 1, 2] rfl) hcont hexit
  · have hf := it_n c17 hf
    refine lv_aload_n hx hb dX12_readWord_135 rfl (lv_at hl 0 rfl) ?_
    refine lv_bipush (v := 10) hx hb dX12_readWord_136 (by decide) ?_
    refine lv_aload_n hx hb dX12_readWord_138 rfl (lv_at hl 0 rfl) ?_
    refine g_get hx hb hts i_X12 hown hK hw 0 eR_c0 rfl 7 (by decide) L_109 (fun _ h => h) rfl dX12_readWord_139 ?_
    refine lv_imul hx hb dX12_readWord_142 ?_
    refine lv_iload_n hx hb dX12_readWord_143 rfl (lv_at hl 3 rfl) ?_
    refine lv_iadd hx hb dX12_readWord_144 ?_
    refine lv_bipush (v := 48) hx hb dX12_readWord_145 (by decide) ?_
    refine lv_isub hx hb dX12_readWord_147 ?_
    refine g_put (ty := .int) hx hb hts i_X12 tyX12 tyX12_ok nmX12 hown hK hw 0 eR_c0 rfl 7 (by decide) L_109 (fun _ h => h) rfl (by decide +kernel) rfl rfl (Nat.le_of_ble_eq_true rfl) dX12_readWord_148 (fun H locs hw => ?_)
    have hw : Wo D ad (Aw ad 19 s.heap.size) (eR ad y m_thrown m_taped m_size m_to m_from m_kind (((10 * m_number) + u3) - 48) m_fault m_place m_name m_happenings m_newHappenings m_heard m_outs m_bounds a_tape a_happened a_many a_sort a_one a_other a_low a_high a_begins a_out a_behind a_ahead a_most a_left a_far a_quarrel a_early a_earlyLast) s.heap H locs := hw
    exact kb_X12_readWord_b151 C0 hf hw (lv_sub hl [0, 1, 2] rfl) hcont hexit
set_option maxHeartbeats 4000000 in
set_option maxRecDepth 100000 in
theorem kb_X12_readWord_b88 {p : Program} {l : Launch} {e : Env} {s : State} {m : MethodId} {args : Array Value} {below : List Frame} {meth : Method} {c : Code} {D : va_G} {ad : Nat → Nat} {y : Nat → ClassId} (C0 : CXT wsX12_readWord cX12_readWord RX12 4 none D (tyL y) (STR ad) p s m args meth c) {m_thrown : Int32} {m_taped : Int32} {m_size : Int32} {m_to : Int32} {m_from : Int32} {m_kind : Int32} {m_number : Int32} {m_fault : Int32} {m_place : Int32} {m_name : Int64} {m_happenings : Int32} {m_newHappenings : Int32} {m_heard : Int32} {m_outs : Int32} {m_bounds : Int32} {a_tape : Nat → Int32} {a_happened : Nat → Int64} {a_many : Nat → Int32} {a_sort : Nat → Int32} {a_one : Nat → Int32} {a_other : Nat → Int32} {a_low : Nat → Int32} {a_high : Nat → Int32} {a_begins : Nat → Int32} {a_out : Nat → Int32} {a_behind : Nat → Int32} {a_ahead : Nat → Int32} {a_most : Nat → Int32} {a_left : Nat → Int32} {a_far : Nat → Int32} {a_quarrel : Nat → Int32} {a_early : Nat → Int32} {a_earlyLast : Nat → Int32} {u1 : Int32} {u3 : Int32} {w0 : Int32}   {res : Int32 × Int32 × Int32 × Int64} {o : (Int32 × Int32 × Int32 × Int64) ⊕ (Int32 × Int32 × Int32 × Int64)} (hf : f_X12_readWord_b88 m_size m_to m_from m_kind m_number m_name a_tape u1 u3 w0 = some o) {H : Heap} {locs : List Loc} {ls : Array Slot} (hw : Wo D ad (Aw ad 19 s.heap.size) (eR ad y m_thrown m_taped m_size m_to m_from m_kind m_number m_fault m_place m_name m_happenings m_newHappenings m_heard m_outs m_bounds a_tape a_happened a_many a_sort a_one a_other a_low a_high a_begins a_out a_behind a_ahead a_most a_left a_far a_quarrel a_early a_earlyLast) s.heap H locs) (hl : lv_has ls 4 [(0, .ref (ad 0)), (1, .int u1), (3, .int u3)]) (hcont : ∀ s2, o = .inl s2 → ∀ (H : Heap) (locs : List Loc) (ls : Array Slot), Wo D ad (Aw ad 19 s.heap.size) (eR ad y m_thrown m_taped m_size s2.2.1 m_from m_kind s2.2.2.1 m_fault m_place s2.2.2.2 m_happenings m_newHappenings m_heard m_outs m_bounds a_tape a_happened a_many a_sort a_one a_other a_low a_high a_begins a_out a_behind a_ahead a_most a_left a_far a_quarrel a_early a_earlyLast) s.heap H locs → lv_has ls 4 [(0, .ref (ad 0)), (1, .int u1), (2, .int s2.1)] → W p l e rm_X12_readWord s m args below meth c H locs 0 0 (QM_X12_readWord below args s D ad y (m_thrown) (m_taped) (m_size) (m_from) (m_fault) (m_place) (m_happenings) (m_newHappenings) (m_heard) (m_outs) (m_bounds) (a_tape) (a_happened) (a_many) (a_sort) (a_one) (a_other) (a_low) (a_high) (a_begins) (a_out) (a_behind) (a_ahead) (a_most) (a_left) (a_far) (a_quarrel) (a_early) (a_earlyLast) res) (F0 m 25 ls [])) (hexit : ∀ t, o = .inr t → ∀ (H : Heap) (locs : List Loc) (ls : Array Slot), Wo D ad (Aw ad 19 s.heap.size) (eR ad y m_thrown m_taped m_size t.2.1 m_from m_kind t.2.2.1 m_fault m_place t.2.2.2 m_happenings m_newHappenings m_heard m_outs m_bounds a_tape a_happened a_many a_sort a_one a_other a_low a_high a_begins a_out a_behind a_ahead a_most a_left a_far a_quarrel a_early a_earlyLast) s.heap H locs → lv_has ls 4 [(0, .ref (ad 0)), (1, .int u1), (2, .int t.1)] → W p l e rm_X12_readWord s m args below meth c H locs 0 0 (QM_X12_readWord below args s D ad y (m_thrown) (m_taped) (m_size) (m_from) (m_fault) (m_place) (m_happenings) (m_newHappenings) (m_heard) (m_outs) (m_bounds) (a_tape) (a_happened) (a_many) (a_sort) (a_one) (a_other) (a_low) (a_high) (a_begins) (a_out) (a_behind) (a_ahead) (a_most) (a_left) (a_far) (a_quarrel) (a_early) (a_earlyLast) res) (F0 m 164 ls [])) : W p l e rm_X12_readWord s m args below meth c H locs 0 0 (QM_X12_readWord below args s D ad y (m_thrown) (m_taped) (m_size) (m_from) (m_fault) (m_place) (m_happenings) (m_newHappenings) (m_heard) (m_outs) (m_bounds) (a_tape) (a_happened) (a_many) (a_sort) (a_one) (a_other) (a_low) (a_high) (a_begins) (a_out) (a_behind) (a_ahead) (a_most) (a_left) (a_far) (a_quarrel) (a_early) (a_earlyLast) res) (F0 m 88 ls [.int w0]) := by
  obtain ⟨hx, hb, hr, hml, hown, hts, hlocks, hK, hst⟩ := id C0
  have i_X12 : ∀ w ∈ u_ws RX12 TX12 33, w ∈ wsX12_readWord := by decide +kernel
  have L_80 := hts (.fieldLink RX12 80 "CaseOrderModel" "to" "I") (by decide +kernel)
  have L_89 := hts (.fieldLink RX12 89 "CaseOrderModel" "from" "I") (by decide +kernel)
  have C_116 := hts (.constantLong RX12 116 27) (by decide +kernel)
  have L_105 := hts (.fieldLink RX12 105 "CaseOrderModel" "name" "J") (by decide +kernel)
  have C_118 := hts (.constantLong RX12 118 96) (by decide +kernel)
  unfold f_X12_readWord_b88 at hf
  refine lv_istore_n (lv' := [(2, .int w0), (0, .ref (ad 0)), (1, .int u1), (3, .int u3)]) hx hb dX12_readWord_88 rfl hl (by decide) rfl (fun ls hl => ?_)
  refine lv_aload_n hx hb dX12_readWord_89 rfl (lv_at hl 1 rfl) ?_
  refine g_get hx hb hts i_X12 hown hK hw 0 eR_c0 rfl 4 (by decide) L_80 (fun _ h => h) rfl dX12_readWord_90 ?_
  refine lv_aload_n hx hb dX12_readWord_93 rfl (lv_at hl 1 rfl) ?_
  refine g_get hx hb hts i_X12 hown hK hw 0 eR_c0 rfl 5 (by decide) L_89 (fun _ h => h) rfl dX12_readWord_94 ?_
  refine lv_isub hx hb dX12_readWord_97 ?_
  refine lv_bipush (v := 8) hx hb dX12_readWord_98 (by decide) ?_
  refine lv_icmp_ge (tgt := 122) hx hb dX12_readWord_100 (by decide) (fun c16 => ?_) (fun c16 => ?_)
  · have hf := it_p c16 hf
    exact kb_X12_readWord_b122 C0 hf hw (lv_sub hl [1, 2, 0, 3] rfl) hcont hexit
  · have hf := it_n c16 hf
    refine lv_aload_n hx hb dX12_readWord_103 rfl (lv_at hl 1 rfl) ?_
    refine lv_ldc2 hx hb hown C_116 dX12_readWord_104 ?_
    refine lv_aload_n hx hb dX12_readWord_107 rfl (lv_at hl 1 rfl) ?_
    refine g_get hx hb hts i_X12 hown hK hw 0 eR_c0 rfl 10 (by decide) L_105 (fun _ h => h) rfl dX12_readWord_108 ?_
    refine lv_lmul hx hb dX12_readWord_111 ?_
    refine lv_iload_n hx hb dX12_readWord_112 rfl (lv_at hl 3 rfl) ?_
    refine lv_i2l hx hb dX12_readWord_113 rfl ?_
    refine lv_ladd hx hb dX12_readWord_114 ?_
    refine lv_ldc2 hx hb hown C_118 dX12_readWord_115 ?_
    refine lv_lsub hx hb dX12_readWord_118 ?_
    refine g_put (ty := .long) hx hb hts i_X12 tyX12 tyX12_ok nmX12 hown hK hw 0 eR_c0 rfl 10 (by decide) L_105 (fun _ h => h) rfl (by decide +kernel) rfl rfl (Nat.le_of_ble_eq_true rfl) dX12_readWord_119 (fun H locs hw => ?_)
    have hw : Wo D ad (Aw ad 19 s.heap.size) (eR ad y m_thrown m_taped m_size m_to m_from m_kind m_number m_fault m_place (((27 * m_name) + u3.toInt64) - 96) m_happenings m_newHappenings m_heard m_outs m_bounds a_tape a_happened a_many a_sort a_one a_other a_low a_high a_begins a_out a_behind a_ahead a_most a_left a_far a_quarrel a_early a_earlyLast) s.heap H locs := hw
    exact kb_X12_readWord_b122 C0 hf hw (lv_sub hl [1, 2, 0, 3] rfl) hcont hexit
set_option maxHeartbeats 4000000 in
set_option maxRecDepth 100000 in
theorem kb_X12_readWord_b87 {p : Program} {l : Launch} {e : Env} {s : State} {m : MethodId} {args : Array Value} {below : List Frame} {meth : Method} {c : Code} {D : va_G} {ad : Nat → Nat} {y : Nat → ClassId} (C0 : CXT wsX12_readWord cX12_readWord RX12 4 none D (tyL y) (STR ad) p s m args meth c) {m_thrown : Int32} {m_taped : Int32} {m_size : Int32} {m_to : Int32} {m_from : Int32} {m_kind : Int32} {m_number : Int32} {m_fault : Int32} {m_place : Int32} {m_name : Int64} {m_happenings : Int32} {m_newHappenings : Int32} {m_heard : Int32} {m_outs : Int32} {m_bounds : Int32} {a_tape : Nat → Int32} {a_happened : Nat → Int64} {a_many : Nat → Int32} {a_sort : Nat → Int32} {a_one : Nat → Int32} {a_other : Nat → Int32} {a_low : Nat → Int32} {a_high : Nat → Int32} {a_begins : Nat → Int32} {a_out : Nat → Int32} {a_behind : Nat → Int32} {a_ahead : Nat → Int32} {a_most : Nat → Int32} {a_left : Nat → Int32} {a_far : Nat → Int32} {a_quarrel : Nat → Int32} {a_early : Nat → Int32} {a_earlyLast : Nat → Int32} {u1 : Int32} {u3 : Int32}    {res : Int32 × Int32 × Int32 × Int64} {o : (Int32 × Int32 × Int32 × Int64) ⊕ (Int32 × Int32 × Int32 × Int64)} (hf : f_X12_readWord_b87 m_size m_to m_from m_kind m_number m_name a_tape u1 u3 = some o) {H : Heap} {locs : List Loc} {ls : Array Slot} (hw : Wo D ad (Aw ad 19 s.heap.size) (eR ad y m_thrown m_taped m_size m_to m_from m_kind m_number m_fault m_place m_name m_happenings m_newHappenings m_heard m_outs m_bounds a_tape a_happened a_many a_sort a_one a_other a_low a_high a_begins a_out a_behind a_ahead a_most a_left a_far a_quarrel a_early a_earlyLast) s.heap H locs) (hl : lv_has ls 4 [(0, .ref (ad 0)), (1, .int u1), (3, .int u3)]) (hcont : ∀ s2, o = .inl s2 → ∀ (H : Heap) (locs : List Loc) (ls : Array Slot), Wo D ad (Aw ad 19 s.heap.size) (eR ad y m_thrown m_taped m_size s2.2.1 m_from m_kind s2.2.2.1 m_fault m_place s2.2.2.2 m_happenings m_newHappenings m_heard m_outs m_bounds a_tape a_happened a_many a_sort a_one a_other a_low a_high a_begins a_out a_behind a_ahead a_most a_left a_far a_quarrel a_early a_earlyLast) s.heap H locs → lv_has ls 4 [(0, .ref (ad 0)), (1, .int u1), (2, .int s2.1)] → W p l e rm_X12_readWord s m args below meth c H locs 0 0 (QM_X12_readWord below args s D ad y (m_thrown) (m_taped) (m_size) (m_from) (m_fault) (m_place) (m_happenings) (m_newHappenings) (m_heard) (m_outs) (m_bounds) (a_tape) (a_happened) (a_many) (a_sort) (a_one) (a_other) (a_low) (a_high) (a_begins) (a_out) (a_behind) (a_ahead) (a_most) (a_left) (a_far) (a_quarrel) (a_early) (a_earlyLast) res) (F0 m 25 ls [])) (hexit : ∀ t, o = .inr t → ∀ (H : Heap) (locs : List Loc) (ls : Array Slot), Wo D ad (Aw ad 19 s.heap.size) (eR ad y m_thrown m_taped m_size t.2.1 m_from m_kind t.2.2.1 m_fault m_place t.2.2.2 m_happenings m_newHappenings m_heard m_outs m_bounds a_tape a_happened a_many a_sort a_one a_other a_low a_high a_begins a_out a_behind a_ahead a_most a_left a_far a_quarrel a_early a_earlyLast) s.heap H locs → lv_has ls 4 [(0, .ref (ad 0)), (1, .int u1), (2, .int t.1)] → W p l e rm_X12_readWord s m args below meth c H locs 0 0 (QM_X12_readWord below args s D ad y (m_thrown) (m_taped) (m_size) (m_from) (m_fault) (m_place) (m_happenings) (m_newHappenings) (m_heard) (m_outs) (m_bounds) (a_tape) (a_happened) (a_many) (a_sort) (a_one) (a_other) (a_low) (a_high) (a_begins) (a_out) (a_behind) (a_ahead) (a_most) (a_left) (a_far) (a_quarrel) (a_early) (a_earlyLast) res) (F0 m 164 ls [])) : W p l e rm_X12_readWord s m args below meth c H locs 0 0 (QM_X12_readWord below args s D ad y (m_thrown) (m_taped) (m_size) (m_from) (m_fault) (m_place) (m_happenings) (m_newHappenings) (m_heard) (m_outs) (m_bounds) (a_tape) (a_happened) (a_many) (a_sort) (a_one) (a_other) (a_low) (a_high) (a_begins) (a_out) (a_behind) (a_ahead) (a_most) (a_left) (a_far) (a_quarrel) (a_early) (a_earlyLast) res) (F0 m 87 ls []) := by
  obtain ⟨hx, hb, hr, hml, hown, hts, hlocks, hK, hst⟩ := id C0
  unfold f_X12_readWord_b87 at hf
  refine lv_iconst (v := 0) hx hb dX12_readWord_87 (by decide) ?_
  exact kb_X12_readWord_b88 C0 hf hw (lv_sub hl [0, 1, 2] rfl) hcont hexit
set_option maxHeartbeats 4000000 in
set_option maxRecDepth 100000 in
theorem kb_X12_readWord_b61 {p : Program} {l : Launch} {e : Env} {s : State} {m : MethodId} {args : Array Value} {below : List Frame} {meth : Method} {c : Code} {D : va_G} {ad : Nat → Nat} {y : Nat → ClassId} (C0 : CXT wsX12_readWord cX12_readWord RX12 4 none D (tyL y) (STR ad) p s m args meth c) {m_thrown : Int32} {m_taped : Int32} {m_size : Int32} {m_to : Int32} {m_from : Int32} {m_kind : Int32} {m_number : Int32} {m_fault : Int32} {m_place : Int32} {m_name : Int64} {m_happenings : Int32} {m_newHappenings : Int32} {m_heard : Int32} {m_outs : Int32} {m_bounds : Int32} {a_tape : Nat → Int32} {a_happened : Nat → Int64} {a_many : Nat → Int32} {a_sort : Nat → Int32} {a_one : Nat → Int32} {a_other : Nat → Int32} {a_low : Nat → Int32} {a_high : Nat → Int32} {a_begins : Nat → Int32} {a_out : Nat → Int32} {a_behind : Nat → Int32} {a_ahead : Nat → Int32} {a_most : Nat → Int32} {a_left : Nat → Int32} {a_far : Nat → Int32} {a_quarrel : Nat → Int32} {a_early : Nat → Int32} {a_earlyLast : Nat → Int32} {u1 : Int32} {u2 : Int32}    {res : Int32 × Int32 × Int32 × Int64} {o : (Int32 × Int32 × Int32 × Int64) ⊕ (Int32 × Int32 × Int32 × Int64)} (hf : f_X12_readWord_b61 m_size m_to m_from m_kind m_number m_name a_tape u1 u2 = some o) {H : Heap} {locs : List Loc} {ls : Array Slot} (hw : Wo D ad (Aw ad 19 s.heap.size) (eR ad y m_thrown m_taped m_size m_to m_from m_kind m_number m_fault m_place m_name m_happenings m_newHappenings m_heard m_outs m_bounds a_tape a_happened a_many a_sort a_one a_other a_low a_high a_begins a_out a_behind a_ahead a_most a_left a_far a_quarrel a_early a_earlyLast) s.heap H locs) (hl : lv_has ls 4 [(0, .ref (ad 0)), (1, .int u1), (2, .int u2)]) (hcont : ∀ s2, o = .inl s2 → ∀ (H : Heap) (locs : List Loc) (ls : Array Slot), Wo D ad (Aw ad 19 s.heap.size) (eR ad y m_thrown m_taped m_size s2.2.1 m_from m_kind s2.2.2.1 m_fault m_place s2.2.2.2 m_happenings m_newHappenings m_heard m_outs m_bounds a_tape a_happened a_many a_sort a_one a_other a_low a_high a_begins a_out a_behind a_ahead a_most a_left a_far a_quarrel a_early a_earlyLast) s.heap H locs → lv_has ls 4 [(0, .ref (ad 0)), (1, .int u1), (2, .int s2.1)] → W p l e rm_X12_readWord s m args below meth c H locs 0 0 (QM_X12_readWord below args s D ad y (m_thrown) (m_taped) (m_size) (m_from) (m_fault) (m_place) (m_happenings) (m_newHappenings) (m_heard) (m_outs) (m_bounds) (a_tape) (a_happened) (a_many) (a_sort) (a_one) (a_other) (a_low) (a_high) (a_begins) (a_out) (a_behind) (a_ahead) (a_most) (a_left) (a_far) (a_quarrel) (a_early) (a_earlyLast) res) (F0 m 25 ls [])) (hexit : ∀ t, o = .inr t → ∀ (H : Heap) (locs : List Loc) (ls : Array Slot), Wo D ad (Aw ad 19 s.heap.size) (eR ad y m_thrown m_taped m_size t.2.1 m_from m_kind t.2.2.1 m_fault m_place t.2.2.2 m_happenings m_newHappenings m_heard m_outs m_bounds a_tape a_happened a_many a_sort a_one a_other a_low a_high a_begins a_out a_behind a_ahead a_most a_left a_far a_quarrel a_early a_earlyLast) s.heap H locs → lv_has ls 4 [(0, .ref (ad 0)), (1, .int u1), (2, .int t.1)] → W p l e rm_X12_readWord s m args below meth c H locs 0 0 (QM_X12_readWord below args s D ad y (m_thrown) (m_taped) (m_size) (m_from) (m_fault) (m_place) (m_happenings) (m_newHappenings) (m_heard) (m_outs) (m_bounds) (a_tape) (a_happened) (a_many) (a_sort) (a_one) (a_other) (a_low) (a_high) (a_begins) (a_out) (a_behind) (a_ahead) (a_most) (a_left) (a_far) (a_quarrel) (a_early) (a_earlyLast) res) (F0 m 164 ls [])) : W p l e rm_X12_readWord s m args below meth c H locs 0 0 (QM_X12_readWord below args s D ad y (m_thrown) (m_taped) (m_size) (m_from) (m_fault) (m_place) (m_happenings) (m_newHappenings) (m_heard) (m_outs) (m_bounds) (a_tape) (a_happened) (a_many) (a_sort) (a_one) (a_other) (a_low) (a_high) (a_begins) (a_out) (a_behind) (a_ahead) (a_most) (a_left) (a_far) (a_quarrel) (a_early) (a_earlyLast) res) (F0 m 61 ls []) := by
  obtain ⟨hx, hb, hr, hml, hown, hts, hlocks, hK, hst⟩ := id C0
  have i_X12 : ∀ w ∈ u_ws RX12 TX12 33, w ∈ wsX12_readWord := by decide +kernel
  have L_7 := hts (.fieldLink RX12 7 "CaseOrderModel" "tape" "[I") (by decide +kernel)
  have L_80 := hts (.fieldLink RX12 80 "CaseOrderModel" "to" "I") (by decide +kernel)
  unfold f_X12_readWord_b61 at hf
  refine lv_aload_n hx hb dX12_readWord_61 rfl (lv_at hl 0 rfl) ?_
  refine g_get hx hb hts i_X12 hown hK hw 0 eR_c0 rfl 1 (by decide) L_7 (fun _ h => h) rfl dX12_readWord_62 ?_
  refine lv_aload_n hx hb dX12_readWord_65 rfl (lv_at hl 0 rfl) ?_
  refine g_get hx hb hts i_X12 hown hK hw 0 eR_c0 rfl 4 (by decide) L_80 (fun _ h => h) rfl dX12_readWord_66 ?_
  obtain ⟨g14, hf⟩ := gIn_some hf
  refine g_iald hx hb hK hw 1 1 eR_c1 rfl g14 dX12_readWord_69 ?_
  refine lv_istore_n (lv' := [(3, .int (a_tape (Int32.toNatClampNeg m_to))), (0, .ref (ad 0)), (1, .int u1), (2, .int u2)]) hx hb dX12_readWord_70 rfl hl (by decide) rfl (fun ls hl => ?_)
  refine lv_iload_n hx hb dX12_readWord_71 rfl (lv_at hl 3 rfl) ?_
  refine lv_if_eq (tgt := 87) hx hb dX12_readWord_72 (by decide) (fun c15 => ?_) (fun c15 => ?_)
  · have hf := it_p c15 hf
    exact kb_X12_readWord_b87 C0 hf hw (lv_sub hl [1, 2, 0] rfl) hcont hexit
  · have hf := it_n c15 hf
    refine lv_iload_n hx hb dX12_readWord_75 rfl (lv_at hl 0 rfl) ?_
    obtain ⟨q18, hq18, hf⟩ := bd hf
    refine g_Si (As := [.int (a_tape (Int32.toNatClampNeg m_to))]) (rest := []) ⟨hx, hb, hml, hown, hts⟩ (k_X12_isLetter hq18) (va_cwS 1 hts gX12_readWord_X12_isLetter rfl rfl rfl (by decide +kernel) ⟨Nat.le_of_ble_eq_true rfl, Nat.le_of_ble_eq_true rfl⟩) STR_ok hst hK hw rfl rfl hl.1 rfl (Nat.le_of_ble_eq_true rfl) dX12_readWord_76 ⟨Nat.zero_le _, Nat.zero_le _⟩ (fun H locs hw => ?_)
    refine lv_iload_n hx hb dX12_readWord_79 rfl (lv_at hl 2 rfl) ?_
    refine lv_icmp_ne (tgt := 87) hx hb dX12_readWord_80 (by decide) (fun c19 => ?_) (fun c19 => ?_)
    · have hf := it_n c19 hf
      exact kb_X12_readWord_b87 C0 hf hw (lv_sub hl [1, 2, 0] rfl) hcont hexit
    · have hf := it_p c19 hf
      refine lv_iconst (v := 1) hx hb dX12_readWord_83 (by decide) ?_
      refine lv_goto (tgt := 88) hx hb dX12_readWord_84 (by decide) ?_
      exact kb_X12_readWord_b88 C0 hf hw (lv_sub hl [1, 2, 0] rfl) hcont hexit
set_option maxHeartbeats 4000000 in
set_option maxRecDepth 100000 in
theorem kw_X12_readWord_25 {p : Program} {l : Launch} {e : Env} {s : State} {m : MethodId} {args : Array Value} {below : List Frame} {meth : Method} {c : Code} {D : va_G} {ad : Nat → Nat} {y : Nat → ClassId} (C0 : CXT wsX12_readWord cX12_readWord RX12 4 none D (tyL y) (STR ad) p s m args meth c) {m_thrown : Int32} {m_taped : Int32} {m_size : Int32} {m_from : Int32} {m_kind : Int32} {m_fault : Int32} {m_place : Int32} {m_happenings : Int32} {m_newHappenings : Int32} {m_heard : Int32} {m_outs : Int32} {m_bounds : Int32} {a_tape : Nat → Int32} {a_happened : Nat → Int64} {a_many : Nat → Int32} {a_sort : Nat → Int32} {a_one : Nat → Int32} {a_other : Nat → Int32} {a_low : Nat → Int32} {a_high : Nat → Int32} {a_begins : Nat → Int32} {a_out : Nat → Int32} {a_behind : Nat → Int32} {a_ahead : Nat → Int32} {a_most : Nat → Int32} {a_left : Nat → Int32} {a_far : Nat → Int32} {a_quarrel : Nat → Int32} {a_early : Nat → Int32} {a_earlyLast : Nat → Int32} {u1 : Int32} {res : Int32 × Int32 × Int32 × Int64} {sg : Int32 × Int32 × Int32 × Int64} {o : (Int32 × Int32 × Int32 × Int64) ⊕ (Int32 × Int32 × Int32 × Int64)} (hf : f_X12_readWord_l25 m_size m_from m_kind a_tape u1 sg = some o) {H : Heap} {locs : List Loc} {ls : Array Slot} (hw : Wo D ad (Aw ad 19 s.heap.size) (eR ad y m_thrown m_taped m_size sg.2.1 m_from m_kind sg.2.2.1 m_fault m_place sg.2.2.2 m_happenings m_newHappenings m_heard m_outs m_bounds a_tape a_happened a_many a_sort a_one a_other a_low a_high a_begins a_out a_behind a_ahead a_most a_left a_far a_quarrel a_early a_earlyLast) s.heap H locs) (hl : lv_has ls 4 [(0, .ref (ad 0)), (1, .int u1), (2, .int sg.1)]) (hcont : ∀ s2, o = .inl s2 → ∀ (H : Heap) (locs : List Loc) (ls : Array Slot), Wo D ad (Aw ad 19 s.heap.size) (eR ad y m_thrown m_taped m_size s2.2.1 m_from m_kind s2.2.2.1 m_fault m_place s2.2.2.2 m_happenings m_newHappenings m_heard m_outs m_bounds a_tape a_happened a_many a_sort a_one a_other a_low a_high a_begins a_out a_behind a_ahead a_most a_left a_far a_quarrel a_early a_earlyLast) s.heap H locs → lv_has ls 4 [(0, .ref (ad 0)), (1, .int u1), (2, .int s2.1)] → W p l e rm_X12_readWord s m args below meth c H locs 0 0 (QM_X12_readWord below args s D ad y (m_thrown) (m_taped) (m_size) (m_from) (m_fault) (m_place) (m_happenings) (m_newHappenings) (m_heard) (m_outs) (m_bounds) (a_tape) (a_happened) (a_many) (a_sort) (a_one) (a_other) (a_low) (a_high) (a_begins) (a_out) (a_behind) (a_ahead) (a_most) (a_left) (a_far) (a_quarrel) (a_early) (a_earlyLast) res) (F0 m 25 ls [])) (hexit : ∀ t, o = .inr t → ∀ (H : Heap) (locs : List Loc) (ls : Array Slot), Wo D ad (Aw ad 19 s.heap.size) (eR ad y m_thrown m_taped m_size t.2.1 m_from m_kind t.2.2.1 m_fault m_place t.2.2.2 m_happenings m_newHappenings m_heard m_outs m_bounds a_tape a_happened a_many a_sort a_one a_other a_low a_high a_begins a_out a_behind a_ahead a_most a_left a_far a_quarrel a_early a_earlyLast) s.heap H locs → lv_has ls 4 [(0, .ref (ad 0)), (1, .int u1), (2, .int t.1)] → W p l e rm_X12_readWord s m args below meth c H locs 0 0 (QM_X12_readWord below args s D ad y (m_thrown) (m_taped) (m_size) (m_from) (m_fault) (m_place) (m_happenings) (m_newHappenings) (m_heard) (m_outs) (m_bounds) (a_tape) (a_happened) (a_many) (a_sort) (a_one) (a_other) (a_low) (a_high) (a_begins) (a_out) (a_behind) (a_ahead) (a_most) (a_left) (a_far) (a_quarrel) (a_early) (a_earlyLast) res) (F0 m 164 ls [])) : W p l e rm_X12_readWord s m args below meth c H locs 0 0 (QM_X12_readWord below args s D ad y (m_thrown) (m_taped) (m_size) (m_from) (m_fault) (m_place) (m_happenings) (m_newHappenings) (m_heard) (m_outs) (m_bounds) (a_tape) (a_happened) (a_many) (a_sort) (a_one) (a_other) (a_low) (a_high) (a_begins) (a_out) (a_behind) (a_ahead) (a_most) (a_left) (a_far) (a_quarrel) (a_early) (a_earlyLast) res) (F0 m 25 ls []) := by
  obtain ⟨hx, hb, hr, hml, hown, hts, hlocks, hK, hst⟩ := id C0
  have i_X12 : ∀ w ∈ u_ws RX12 TX12 33, w ∈ wsX12_readWord := by decide +kernel
  have L_80 := hts (.fieldLink RX12 80 "CaseOrderModel" "to" "I") (by decide +kernel)
  have L_83 := hts (.fieldLink RX12 83 "CaseOrderModel" "size" "I") (by decide +kernel)
  unfold f_X12_readWord_l25 at hf
  refine lv_aload_n hx hb dX12_readWord_25 rfl (lv_at hl 0 rfl) ?_
  refine lv_aload_n hx hb dX12_readWord_26 rfl (lv_at hl 0 rfl) ?_
  refine g_get hx hb hts i_X12 hown hK hw 0 eR_c0 rfl 4 (by decide) L_80 (fun _ h => h) rfl dX12_readWord_27 ?_
  refine lv_aload_n hx hb dX12_readWord_30 rfl (lv_at hl 0 rfl) ?_
  refine g_get hx hb hts i_X12 hown hK hw 0 eR_c0 rfl 3 (by decide) L_83 (fun _ h => h) rfl dX12_readWord_31 ?_
  obtain ⟨q11, hq11, hf⟩ := bd hf
  refine g_Vi (As := [.int sg.2.1, .int m_size]) (rest := []) ⟨hx, hb, hml, hown, hts⟩ (k_X12_byteAt hq11) (cwV 2 hts gX12_readWord_X12_byteAt rfl rfl rfl (by decide +kernel) ⟨Nat.le_of_ble_eq_true rfl, Nat.le_of_ble_eq_true rfl⟩) STR_ok hst hK hw rfl eR_c0 rfl rfl hl.1 rfl (Nat.le_of_ble_eq_true rfl) dX12_readWord_34 ⟨Nat.zero_le _, Nat.zero_le _⟩ (fun H locs hw => ?_)
  obtain ⟨q12, hq12, hf⟩ := bd hf
  refine g_Si (As := [.int q11]) (rest := []) ⟨hx, hb, hml, hown, hts⟩ (k_X12_isLetter hq12) (va_cwS 1 hts gX12_readWord_X12_isLetter rfl rfl rfl (by decide +kernel) ⟨Nat.le_of_ble_eq_true rfl, Nat.le_of_ble_eq_true rfl⟩) STR_ok hst hK hw rfl rfl hl.1 rfl (Nat.le_of_ble_eq_true rfl) dX12_readWord_37 ⟨Nat.zero_le _, Nat.zero_le _⟩ (fun H locs hw => ?_)
  refine lv_if_ne (tgt := 61) hx hb dX12_readWord_40 (by decide) (fun c13 => ?_) (fun c13 => ?_)
  · have hf := it_n c13 hf
    exact kb_X12_readWord_b61 C0 hf hw (lv_sub hl [0, 1, 2] rfl) hcont hexit
  · have hf := it_p c13 hf
    refine lv_aload_n hx hb dX12_readWord_43 rfl (lv_at hl 0 rfl) ?_
    refine lv_aload_n hx hb dX12_readWord_44 rfl (lv_at hl 0 rfl) ?_
    refine g_get hx hb hts i_X12 hown hK hw 0 eR_c0 rfl 4 (by decide) L_80 (fun _ h => h) rfl dX12_readWord_45 ?_
    refine lv_aload_n hx hb dX12_readWord_48 rfl (lv_at hl 0 rfl) ?_
    refine g_get hx hb hts i_X12 hown hK hw 0 eR_c0 rfl 3 (by decide) L_83 (fun _ h => h) rfl dX12_readWord_49 ?_
    obtain ⟨q20, hq20, hf⟩ := bd hf
    refine g_Vi (As := [.int sg.2.1, .int m_size]) (rest := []) ⟨hx, hb, hml, hown, hts⟩ (k_X12_byteAt hq20) (cwV 2 hts gX12_readWord_X12_byteAt rfl rfl rfl (by decide +kernel) ⟨Nat.le_of_ble_eq_true rfl, Nat.le_of_ble_eq_true rfl⟩) STR_ok hst hK hw rfl eR_c0 rfl rfl hl.1 rfl (Nat.le_of_ble_eq_true rfl) dX12_readWord_52 ⟨Nat.zero_le _, Nat.zero_le _⟩ (fun H locs hw => ?_)
    obtain ⟨q21, hq21, hf⟩ := bd hf
    refine g_Si (As := [.int q20]) (rest := []) ⟨hx, hb, hml, hown, hts⟩ (k_X12_isDigit hq21) (va_cwS 1 hts gX12_readWord_X12_isDigit rfl rfl rfl (by decide +kernel) ⟨Nat.le_of_ble_eq_true rfl, Nat.le_of_ble_eq_true rfl⟩) STR_ok hst hK hw rfl rfl hl.1 rfl (Nat.le_of_ble_eq_true rfl) dX12_readWord_55 ⟨Nat.zero_le _, Nat.zero_le _⟩ (fun H locs hw => ?_)
    refine lv_if_eq (tgt := 164) hx hb dX12_readWord_58 (by decide) (fun c22 => ?_) (fun c22 => ?_)
    · have hf := it_p c22 hf
      exact hexit _ (so hf).symm _ _ _ hw (lv_sub hl [0, 1, 2] rfl)
    · have hf := it_n c22 hf
      exact kb_X12_readWord_b61 C0 hf hw (lv_sub hl [0, 1, 2] rfl) hcont hexit
set_option maxHeartbeats 4000000 in
theorem kl_X12_readWord_25 {p : Program} {l : Launch} {e : Env} {s : State} {m : MethodId} {args : Array Value} {below : List Frame} {meth : Method} {c : Code} {D : va_G} {ad : Nat → Nat} {y : Nat → ClassId} (C0 : CXT wsX12_readWord cX12_readWord RX12 4 none D (tyL y) (STR ad) p s m args meth c) {m_thrown : Int32} {m_taped : Int32} {m_size : Int32} {m_from : Int32} {m_kind : Int32} {m_fault : Int32} {m_place : Int32} {m_happenings : Int32} {m_newHappenings : Int32} {m_heard : Int32} {m_outs : Int32} {m_bounds : Int32} {a_tape : Nat → Int32} {a_happened : Nat → Int64} {a_many : Nat → Int32} {a_sort : Nat → Int32} {a_one : Nat → Int32} {a_other : Nat → Int32} {a_low : Nat → Int32} {a_high : Nat → Int32} {a_begins : Nat → Int32} {a_out : Nat → Int32} {a_behind : Nat → Int32} {a_ahead : Nat → Int32} {a_most : Nat → Int32} {a_left : Nat → Int32} {a_far : Nat → Int32} {a_quarrel : Nat → Int32} {a_early : Nat → Int32} {a_earlyLast : Nat → Int32} {u1 : Int32} {res : Int32 × Int32 × Int32 × Int64} : ∀ (n : Nat) (sg : Int32 × Int32 × Int32 × Int64) (q : Int32 × Int32 × Int32 × Int64), lp (f_X12_readWord_l25 m_size m_from m_kind a_tape u1) n sg = some q → ∀ (H : Heap) (locs : List Loc) (ls : Array Slot), Wo D ad (Aw ad 19 s.heap.size) (eR ad y m_thrown m_taped m_size sg.2.1 m_from m_kind sg.2.2.1 m_fault m_place sg.2.2.2 m_happenings m_newHappenings m_heard m_outs m_bounds a_tape a_happened a_many a_sort a_one a_other a_low a_high a_begins a_out a_behind a_ahead a_most a_left a_far a_quarrel a_early a_earlyLast) s.heap H locs → lv_has ls 4 [(0, .ref (ad 0)), (1, .int u1), (2, .int sg.1)] → (∀ (H : Heap) (locs : List Loc) (ls : Array Slot), Wo D ad (Aw ad 19 s.heap.size) (eR ad y m_thrown m_taped m_size q.2.1 m_from m_kind q.2.2.1 m_fault m_place q.2.2.2 m_happenings m_newHappenings m_heard m_outs m_bounds a_tape a_happened a_many a_sort a_one a_other a_low a_high a_begins a_out a_behind a_ahead a_most a_left a_far a_quarrel a_early a_earlyLast) s.heap H locs → lv_has ls 4 [(0, .ref (ad 0)), (1, .int u1), (2, .int q.1)] → W p l e rm_X12_readWord s m args below meth c H locs 0 0 (QM_X12_readWord below args s D ad y (m_thrown) (m_taped) (m_size) (m_from) (m_fault) (m_place) (m_happenings) (m_newHappenings) (m_heard) (m_outs) (m_bounds) (a_tape) (a_happened) (a_many) (a_sort) (a_one) (a_other) (a_low) (a_high) (a_begins) (a_out) (a_behind) (a_ahead) (a_most) (a_left) (a_far) (a_quarrel) (a_early) (a_earlyLast) res) (F0 m 164 ls [])) → W p l e rm_X12_readWord s m args below meth c H locs 0 0 (QM_X12_readWord below args s D ad y (m_thrown) (m_taped) (m_size) (m_from) (m_fault) (m_place) (m_happenings) (m_newHappenings) (m_heard) (m_outs) (m_bounds) (a_tape) (a_happened) (a_many) (a_sort) (a_one) (a_other) (a_low) (a_high) (a_begins) (a_out) (a_behind) (a_ahead) (a_most) (a_left) (a_far) (a_quarrel) (a_early) (a_earlyLast) res) (F0 m 25 ls []) := by
  intro n
  induction n with
  | zero => intro sg q hf; exact absurd hf lp_zero
  | succ n ih =>
    intro sg q hf H locs ls hw hl hexit
    rcases lp_succ hf with ⟨sg2, h1, h2⟩ | h1
    · exact kw_X12_readWord_25 C0 h1 hw hl (fun s2 e2 H locs ls hw hl => by cases e2; exact ih _ q h2 H locs ls hw hl hexit) (fun t e2 => by cases e2)
    · exact kw_X12_readWord_25 C0 h1 hw hl (fun s2 e2 => by cases e2) (fun t e2 => by cases e2; exact hexit)
set_option maxHeartbeats 4000000 in
set_option maxRecDepth 100000 in
theorem kb_X12_readWord_b204 {p : Program} {l : Launch} {e : Env} {s : State} {m : MethodId} {args : Array Value} {below : List Frame} {meth : Method} {c : Code} {D : va_G} {ad : Nat → Nat} {y : Nat → ClassId} (C0 : CXT wsX12_readWord cX12_readWord RX12 4 none D (tyL y) (STR ad) p s m args meth c) {m_thrown : Int32} {m_taped : Int32} {m_size : Int32} {m_to : Int32} {m_from : Int32} {m_kind : Int32} {m_number : Int32} {m_fault : Int32} {m_place : Int32} {m_name : Int64} {m_happenings : Int32} {m_newHappenings : Int32} {m_heard : Int32} {m_outs : Int32} {m_bounds : Int32} {a_tape : Nat → Int32} {a_happened : Nat → Int64} {a_many : Nat → Int32} {a_sort : Nat → Int32} {a_one : Nat → Int32} {a_other : Nat → Int32} {a_low : Nat → Int32} {a_high : Nat → Int32} {a_begins : Nat → Int32} {a_out : Nat → Int32} {a_behind : Nat → Int32} {a_ahead : Nat → Int32} {a_most : Nat → Int32} {a_left : Nat → Int32} {a_far : Nat → Int32} {a_quarrel : Nat → Int32} {a_early : Nat → Int32} {a_earlyLast : Nat → Int32}  {w0 : Int32}  {res : Int32 × Int32 × Int32 × Int64} (hf : f_X12_readWord_b204 m_size m_to m_from m_kind m_number m_name a_tape w0 = some res) {H : Heap} {locs : List Loc} {ls : Array Slot} (hw : Wo D ad (Aw ad 19 s.heap.size) (eR ad y m_thrown m_taped m_size m_to m_from m_kind m_number m_fault m_place m_name m_happenings m_newHappenings m_heard m_outs m_bounds a_tape a_happened a_many a_sort a_one a_other a_low a_high a_begins a_out a_behind a_ahead a_most a_left a_far a_quarrel a_early a_earlyLast) s.heap H locs) (hl : lv_has ls 4 []) : W p l e rm_X12_readWord s m args below meth c H locs 0 0 (QM_X12_readWord below args s D ad y (m_thrown) (m_taped) (m_size) (m_from) (m_fault) (m_place) (m_happenings) (m_newHappenings) (m_heard) (m_outs) (m_bounds) (a_tape) (a_happened) (a_many) (a_sort) (a_one) (a_other) (a_low) (a_high) (a_begins) (a_out) (a_behind) (a_ahead) (a_most) (a_left) (a_far) (a_quarrel) (a_early) (a_earlyLast) res) (F0 m 204 ls [.int w0, .ref (ad 0)]) := by
  obtain ⟨hx, hb, hr, hml, hown, hts, hlocks, hK, hst⟩ := id C0
  have i_X12 : ∀ w ∈ u_ws RX12 TX12 33, w ∈ wsX12_readWord := by decide +kernel
  have L_92 := hts (.fieldLink RX12 92 "CaseOrderModel" "kind" "I") (by decide +kernel)
  unfold f_X12_readWord_b204 at hf
  refine g_put (ty := .int) hx hb hts i_X12 tyX12 tyX12_ok nmX12 hown hK hw 0 eR_c0 rfl 6 (by decide) L_92 (fun _ h => h) rfl (by decide +kernel) rfl rfl (Nat.le_of_ble_eq_true rfl) dX12_readWord_204 (fun H locs hw => ?_)
  have hw : Wo D ad (Aw ad 19 s.heap.size) (eR ad y m_thrown m_taped m_size m_to m_from w0 m_number m_fault m_place m_name m_happenings m_newHappenings m_heard m_outs m_bounds a_tape a_happened a_many a_sort a_one a_other a_low a_high a_begins a_out a_behind a_ahead a_most a_left a_far a_quarrel a_early a_earlyLast) s.heap H locs := hw
  obtain rfl := so hf
  exact W.vret hx hb hr (fun t ht _ => g_endv hw t ht) hw.2.2.2.2 dX12_readWord_207
set_option maxHeartbeats 4000000 in
set_option maxRecDepth 100000 in
theorem kb_X12_readWord_b188 {p : Program} {l : Launch} {e : Env} {s : State} {m : MethodId} {args : Array Value} {below : List Frame} {meth : Method} {c : Code} {D : va_G} {ad : Nat → Nat} {y : Nat → ClassId} (C0 : CXT wsX12_readWord cX12_readWord RX12 4 none D (tyL y) (STR ad) p s m args meth c) {m_thrown : Int32} {m_taped : Int32} {m_size : Int32} {m_to : Int32} {m_from : Int32} {m_kind : Int32} {m_number : Int32} {m_fault : Int32} {m_place : Int32} {m_name : Int64} {m_happenings : Int32} {m_newHappenings : Int32} {m_heard : Int32} {m_outs : Int32} {m_bounds : Int32} {a_tape : Nat → Int32} {a_happened : Nat → Int64} {a_many : Nat → Int32} {a_sort : Nat → Int32} {a_one : Nat → Int32} {a_other : Nat → Int32} {a_low : Nat → Int32} {a_high : Nat → Int32} {a_begins : Nat → Int32} {a_out : Nat → Int32} {a_behind : Nat → Int32} {a_ahead : Nat → Int32} {a_most : Nat → Int32} {a_left : Nat → Int32} {a_far : Nat → Int32} {a_quarrel : Nat → Int32} {a_early : Nat → Int32} {a_earlyLast : Nat → Int32} {u1 : Int32} {w0 : Int32} {w1 : Int32}  {res : Int32 × Int32 × Int32 × Int64} (hf : f_X12_readWord_b188 m_size m_to m_from m_kind m_number m_name a_tape u1 w0 w1 = some res) {H : Heap} {locs : List Loc} {ls : Array Slot} (hw : Wo D ad (Aw ad 19 s.heap.size) (eR ad y m_thrown m_taped m_size m_to m_from m_kind m_number m_fault m_place m_name m_happenings m_newHappenings m_heard m_outs m_bounds a_tape a_happened a_many a_sort a_one a_other a_low a_high a_begins a_out a_behind a_ahead a_most a_left a_far a_quarrel a_early a_earlyLast) s.heap H locs) (hl : lv_has ls 4 [(1, .int u1)]) : W p l e rm_X12_readWord s m args below meth c H locs 0 0 (QM_X12_readWord below args s D ad y (m_thrown) (m_taped) (m_size) (m_from) (m_fault) (m_place) (m_happenings) (m_newHappenings) (m_heard) (m_outs) (m_bounds) (a_tape) (a_happened) (a_many) (a_sort) (a_one) (a_other) (a_low) (a_high) (a_begins) (a_out) (a_behind) (a_ahead) (a_most) (a_left) (a_far) (a_quarrel) (a_early) (a_earlyLast) res) (F0 m 188 ls [.int w0, .int w1, .ref (ad 0)]) := by
  obtain ⟨hx, hb, hr, hml, hown, hts, hlocks, hK, hst⟩ := id C0
  unfold f_X12_readWord_b188 at hf
  refine lv_icmp_le (tgt := 195) hx hb dX12_readWord_188 (by decide) (fun c26 => ?_) (fun c26 => ?_)
  · have hf := it_p c26 hf
    refine lv_iload_n hx hb dX12_readWord_195 rfl (lv_at hl 0 rfl) ?_
    refine lv_if_eq (tgt := 203) hx hb dX12_readWord_196 (by decide) (fun c27 => ?_) (fun c27 => ?_)
    · have hf := it_p c27 hf
      refine lv_iconst (v := 3) hx hb dX12_readWord_203 (by decide) ?_
      exact kb_X12_readWord_b204 C0 hf hw (lv_sub hl [] rfl)
    · have hf := it_n c27 hf
      refine lv_iconst (v := 2) hx hb dX12_readWord_199 (by decide) ?_
      refine lv_goto (tgt := 204) hx hb dX12_readWord_200 (by decide) ?_
      exact kb_X12_readWord_b204 C0 hf hw (lv_sub hl [] rfl)
  · have hf := it_n c26 hf
    refine lv_iconst (v := 1) hx hb dX12_readWord_191 (by decide) ?_
    refine lv_goto (tgt := 204) hx hb dX12_readWord_192 (by decide) ?_
    exact kb_X12_readWord_b204 C0 hf hw (lv_sub hl [] rfl)
set_option maxHeartbeats 4000000 in
set_option maxRecDepth 100000 in
theorem ke_X12_readWord {p : Program} {l : Launch} {e : Env} {s : State} {m : MethodId} {args : Array Value} {below : List Frame} {meth : Method} {c : Code} {D : va_G} {ad : Nat → Nat} {y : Nat → ClassId} (C0 : CXT wsX12_readWord cX12_readWord RX12 4 none D (tyL y) (STR ad) p s m args meth c) {m_thrown : Int32} {m_taped : Int32} {m_size : Int32} {m_to : Int32} {m_from : Int32} {m_kind : Int32} {m_number : Int32} {m_fault : Int32} {m_place : Int32} {m_name : Int64} {m_happenings : Int32} {m_newHappenings : Int32} {m_heard : Int32} {m_outs : Int32} {m_bounds : Int32} {a_tape : Nat → Int32} {a_happened : Nat → Int64} {a_many : Nat → Int32} {a_sort : Nat → Int32} {a_one : Nat → Int32} {a_other : Nat → Int32} {a_low : Nat → Int32} {a_high : Nat → Int32} {a_begins : Nat → Int32} {a_out : Nat → Int32} {a_behind : Nat → Int32} {a_ahead : Nat → Int32} {a_most : Nat → Int32} {a_left : Nat → Int32} {a_far : Nat → Int32} {a_quarrel : Nat → Int32} {a_early : Nat → Int32} {a_earlyLast : Nat → Int32}  {res : Int32 × Int32 × Int32 × Int64} (hf : f_X12_readWord m_size m_to m_from m_kind m_number m_name a_tape = some res) {H : Heap} {locs : List Loc} {ls : Array Slot} (hw : Wo D ad (Aw ad 19 s.heap.size) (eR ad y m_thrown m_taped m_size m_to m_from m_kind m_number m_fault m_place m_name m_happenings m_newHappenings m_heard m_outs m_bounds a_tape a_happened a_many a_sort a_one a_other a_low a_high a_begins a_out a_behind a_ahead a_most a_left a_far a_quarrel a_early a_earlyLast) s.heap H locs) (hl : lv_has ls 4 [(0, .ref (ad 0))]) : W p l e rm_X12_readWord s m args below meth c H locs 0 0 (QM_X12_readWord below args s D ad y (m_thrown) (m_taped) (m_size) (m_from) (m_fault) (m_place) (m_happenings) (m_newHappenings) (m_heard) (m_outs) (m_bounds) (a_tape) (a_happened) (a_many) (a_sort) (a_one) (a_other) (a_low) (a_high) (a_begins) (a_out) (a_behind) (a_ahead) (a_most) (a_left) (a_far) (a_quarrel) (a_early) (a_earlyLast) res) (F0 m 0 ls []) := by
  obtain ⟨hx, hb, hr, hml, hown, hts, hlocks, hK, hst⟩ := id C0
  have i_X12 : ∀ w ∈ u_ws RX12 TX12 33, w ∈ wsX12_readWord := by decide +kernel
  have L_7 := hts (.fieldLink RX12 7 "CaseOrderModel" "tape" "[I") (by decide +kernel)
  have L_80 := hts (.fieldLink RX12 80 "CaseOrderModel" "to" "I") (by decide +kernel)
  have L_105 := hts (.fieldLink RX12 105 "CaseOrderModel" "name" "J") (by decide +kernel)
  have L_109 := hts (.fieldLink RX12 109 "CaseOrderModel" "number" "I") (by decide +kernel)
  have L_89 := hts (.fieldLink RX12 89 "CaseOrderModel" "from" "I") (by decide +kernel)
  unfold f_X12_readWord at hf
  refine lv_aload_n hx hb dX12_readWord_0 rfl (lv_at hl 0 rfl) ?_
  refine g_get hx hb hts i_X12 hown hK hw 0 eR_c0 rfl 1 (by decide) L_7 (fun _ h => h) rfl dX12_readWord_1 ?_
  refine lv_aload_n hx hb dX12_readWord_4 rfl (lv_at hl 0 rfl) ?_
  refine g_get hx hb hts i_X12 hown hK hw 0 eR_c0 rfl 4 (by decide) L_80 (fun _ h => h) rfl dX12_readWord_5 ?_
  obtain ⟨g9, hf⟩ := gIn_some hf
  refine g_iald hx hb hK hw 1 1 eR_c1 rfl g9 dX12_readWord_8 ?_
  obtain ⟨q10, hq10, hf⟩ := bd hf
  refine g_Si (As := [.int (a_tape (Int32.toNatClampNeg m_to))]) (rest := []) ⟨hx, hb, hml, hown, hts⟩ (k_X12_isLetter hq10) (va_cwS 1 hts gX12_readWord_X12_isLetter rfl rfl rfl (by decide +kernel) ⟨Nat.le_of_ble_eq_true rfl, Nat.le_of_ble_eq_true rfl⟩) STR_ok hst hK hw rfl rfl hl.1 rfl (Nat.le_of_ble_eq_true rfl) dX12_readWord_9 ⟨Nat.zero_le _, Nat.zero_le _⟩ (fun H locs hw => ?_)
  refine lv_istore_n (lv' := [(1, .int q10), (0, .ref (ad 0))]) hx hb dX12_readWord_12 rfl hl (by decide) rfl (fun ls hl => ?_)
  refine lv_iconst (v := 1) hx hb dX12_readWord_13 (by decide) ?_
  refine lv_istore_n (lv' := [(2, .int 1), (1, .int q10), (0, .ref (ad 0))]) hx hb dX12_readWord_14 rfl hl (by decide) rfl (fun ls hl => ?_)
  refine lv_aload_n hx hb dX12_readWord_15 rfl (lv_at hl 2 rfl) ?_
  refine lv_lconst (v := 0) hx hb dX12_readWord_16 (by decide) ?_
  refine g_put (ty := .long) hx hb hts i_X12 tyX12 tyX12_ok nmX12 hown hK hw 0 eR_c0 rfl 10 (by decide) L_105 (fun _ h => h) rfl (by decide +kernel) rfl rfl (Nat.le_of_ble_eq_true rfl) dX12_readWord_17 (fun H locs hw => ?_)
  have hw : Wo D ad (Aw ad 19 s.heap.size) (eR ad y m_thrown m_taped m_size m_to m_from m_kind m_number m_fault m_place 0 m_happenings m_newHappenings m_heard m_outs m_bounds a_tape a_happened a_many a_sort a_one a_other a_low a_high a_begins a_out a_behind a_ahead a_most a_left a_far a_quarrel a_early a_earlyLast) s.heap H locs := hw
  refine lv_aload_n hx hb dX12_readWord_20 rfl (lv_at hl 2 rfl) ?_
  refine lv_iconst (v := 0) hx hb dX12_readWord_21 (by decide) ?_
  refine g_put (ty := .int) hx hb hts i_X12 tyX12 tyX12_ok nmX12 hown hK hw 0 eR_c0 rfl 7 (by decide) L_109 (fun _ h => h) rfl (by decide +kernel) rfl rfl (Nat.le_of_ble_eq_true rfl) dX12_readWord_22 (fun H locs hw => ?_)
  have hw : Wo D ad (Aw ad 19 s.heap.size) (eR ad y m_thrown m_taped m_size m_to m_from m_kind 0 m_fault m_place 0 m_happenings m_newHappenings m_heard m_outs m_bounds a_tape a_happened a_many a_sort a_one a_other a_low a_high a_begins a_out a_behind a_ahead a_most a_left a_far a_quarrel a_early a_earlyLast) s.heap H locs := hw
  obtain ⟨q23, hq23, hf⟩ := bd hf
  refine kl_X12_readWord_25 C0 gFU _ _ hq23 _ _ _ hw (lv_sub hl [2, 1, 0] rfl) (fun H locs ls hw hl => ?_)
  have hw : Wo D ad (Aw ad 19 s.heap.size) (eR ad y m_thrown m_taped m_size q23.2.1 m_from m_kind q23.2.2.1 m_fault m_place q23.2.2.2 m_happenings m_newHappenings m_heard m_outs m_bounds a_tape a_happened a_many a_sort a_one a_other a_low a_high a_begins a_out a_behind a_ahead a_most a_left a_far a_quarrel a_early a_earlyLast) s.heap H locs := hw
  have hl : lv_has ls 4 [(0, .ref (ad 0)), (1, .int q10), (2, .int q23.1)] := hl
  refine lv_aload_n hx hb dX12_readWord_164 rfl (lv_at hl 0 rfl) ?_
  refine lv_iload_n hx hb dX12_readWord_165 rfl (lv_at hl 2 rfl) ?_
  refine lv_if_eq (tgt := 191) hx hb dX12_readWord_166 (by decide) (fun c24 => ?_) (fun c24 => ?_)
  · have hf := it_p c24 hf
    refine lv_iconst (v := 1) hx hb dX12_readWord_191 (by decide) ?_
    refine lv_goto (tgt := 204) hx hb dX12_readWord_192 (by decide) ?_
    exact kb_X12_readWord_b204 C0 hf hw (lv_sub hl [] rfl)
  · have hf := it_n c24 hf
    refine lv_aload_n hx hb dX12_readWord_169 rfl (lv_at hl 0 rfl) ?_
    refine g_get hx hb hts i_X12 hown hK hw 0 eR_c0 rfl 4 (by decide) L_80 (fun _ h => h) rfl dX12_readWord_170 ?_
    refine lv_aload_n hx hb dX12_readWord_173 rfl (lv_at hl 0 rfl) ?_
    refine g_get hx hb hts i_X12 hown hK hw 0 eR_c0 rfl 5 (by decide) L_89 (fun _ h => h) rfl dX12_readWord_174 ?_
    refine lv_isub hx hb dX12_readWord_177 ?_
    refine lv_iload_n hx hb dX12_readWord_178 rfl (lv_at hl 1 rfl) ?_
    refine lv_if_eq (tgt := 187) hx hb dX12_readWord_179 (by decide) (fun c25 => ?_) (fun c25 => ?_)
    · have hf := it_p c25 hf
      refine lv_iconst (v := 4) hx hb dX12_readWord_187 (by decide) ?_
      exact kb_X12_readWord_b188 C0 hf hw (lv_sub hl [1] rfl)
    · have hf := it_n c25 hf
      refine lv_bipush (v := 8) hx hb dX12_readWord_182 (by decide) ?_
      refine lv_goto (tgt := 188) hx hb dX12_readWord_184 (by decide) ?_
      exact kb_X12_readWord_b188 C0 hf hw (lv_sub hl [1] rfl)
set_option maxHeartbeats 4000000 in
theorem k_X12_readWord {l : Launch} {D : va_G} {ad : Nat → Nat} {y : Nat → ClassId} {m_thrown : Int32} {m_taped : Int32} {m_size : Int32} {m_to : Int32} {m_from : Int32} {m_kind : Int32} {m_number : Int32} {m_fault : Int32} {m_place : Int32} {m_name : Int64} {m_happenings : Int32} {m_newHappenings : Int32} {m_heard : Int32} {m_outs : Int32} {m_bounds : Int32} {a_tape : Nat → Int32} {a_happened : Nat → Int64} {a_many : Nat → Int32} {a_sort : Nat → Int32} {a_one : Nat → Int32} {a_other : Nat → Int32} {a_low : Nat → Int32} {a_high : Nat → Int32} {a_begins : Nat → Int32} {a_out : Nat → Int32} {a_behind : Nat → Int32} {a_ahead : Nat → Int32} {a_most : Nat → Int32} {a_left : Nat → Int32} {a_far : Nat → Int32} {a_quarrel : Nat → Int32} {a_early : Nat → Int32} {a_earlyLast : Nat → Int32}  {res : Int32 × Int32 × Int32 × Int64} (hf : f_X12_readWord m_size m_to m_from m_kind m_number m_name a_tape = some res) : CTv l yX12_readWord wsX12_readWord rm_X12_readWord D ad 19 (tyL y) (STR ad) (eR ad y m_thrown m_taped m_size m_to m_from m_kind m_number m_fault m_place m_name m_happenings m_newHappenings m_heard m_outs m_bounds a_tape a_happened a_many a_sort a_one a_other a_low a_high a_begins a_out a_behind a_ahead a_most a_left a_far a_quarrel a_early a_earlyLast) (eR ad y m_thrown m_taped m_size res.1 m_from res.2.1 res.2.2.1 m_fault m_place res.2.2.2 m_happenings m_newHappenings m_heard m_outs m_bounds a_tape a_happened a_many a_sort a_one a_other a_low a_high a_begins a_out a_behind a_ahead a_most a_left a_far a_quarrel a_early a_earlyLast) [.ref (ad 0)] := by
  intro sz
  refine Met.ofW (cc := cX12_readWord) (maxL := 4) (ret := none) (by decide) rfl ?_
  intro p e s m args below meth c s₁ B hml hv
  obtain ⟨rfl, hsz, hP, hK, hD0, hst⟩ := hv
  subst hsz
  have C0 : CXT wsX12_readWord cX12_readWord RX12 4 none D (tyL y) (STR ad) p s m ([.ref (ad 0)] : List Value).toArray meth c := ⟨B.exec, B.bytes, B.returns, hml, findClass_of_methodNamed B.named, atoms_spec (ws := wsX12_readWord) B.pre, B.notSynchronized, hK, hst⟩
  have hw := g_start (n := 19) rfl hP hD0
  have hl := lv_entry ([.ref (ad 0)]) (n := 4) (Nat.le_of_ble_eq_true rfl)
  rw [lg_entry_eq]
  generalize (lg_sl ([.ref (ad 0)]) ++ List.replicate (4 - (lg_sl ([.ref (ad 0)])).length) Slot.unset).toArray = ls at hl ⊢
  have hl : lv_has ls 4 [(0, .ref (ad 0))] := hl
  exact ke_X12_readWord C0 hf hw hl
abbrev rm_X12_go : Room := { frames := 2, cells := 0, slots := 0, locals := 45 }
abbrev QM_X12_go (below : List Frame) (args : Array Value) (s : State) (D : va_G) (ad : Nat → Nat) (y : Nat → ClassId) (m_thrown : Int32) (m_taped : Int32) (m_size : Int32) (m_fault : Int32) (m_place : Int32) (m_happenings : Int32) (m_newHappenings : Int32) (m_heard : Int32) (m_outs : Int32) (m_bounds : Int32) (a_tape : Nat → Int32) (a_happened : Nat → Int64) (a_many : Nat → Int32) (a_sort : Nat → Int32) (a_one : Nat → Int32) (a_other : Nat → Int32) (a_low : Nat → Int32) (a_high : Nat → Int32) (a_begins : Nat → Int32) (a_out : Nat → Int32) (a_behind : Nat → Int32) (a_ahead : Nat → Int32) (a_most : Nat → Int32) (a_left : Nat → Int32) (a_far : Nat → Int32) (a_quarrel : Nat → Int32) (a_early : Nat → Int32) (a_earlyLast : Nat → Int32) (res : Int32 × Int32 × Int32 × Int32 × Int64) : State → Prop := MQ below (va_Qv (fun (_ : Unit) => True) (fun _ t => va_P D vwCl (wls ad (eR ad y m_thrown m_taped m_size res.1 res.2.1 res.2.2.1 res.2.2.2.1 m_fault m_place res.2.2.2.2 m_happenings m_newHappenings m_heard m_outs m_bounds a_tape a_happened a_many a_sort a_one a_other a_low a_high a_begins a_out a_behind a_ahead a_most a_left a_far a_quarrel a_early a_earlyLast)) t.heap) (Aw ad 19 s.heap.size)) args s 0 0 (Aw ad 19 s.heap.size)
set_option maxHeartbeats 4000000 in
set_option maxRecDepth 100000 in
theorem kb_X12_go_b86 {p : Program} {l : Launch} {e : Env} {s : State} {m : MethodId} {args : Array Value} {below : List Frame} {meth : Method} {c : Code} {D : va_G} {ad : Nat → Nat} {y : Nat → ClassId} (C0 : CXT wsX12_go cX12_go RX12 2 none D (tyL y) (STR ad) p s m args meth c) {m_thrown : Int32} {m_taped : Int32} {m_size : Int32} {m_to : Int32} {m_from : Int32} {m_kind : Int32} {m_number : Int32} {m_fault : Int32} {m_place : Int32} {m_name : Int64} {m_happenings : Int32} {m_newHappenings : Int32} {m_heard : Int32} {m_outs : Int32} {m_bounds : Int32} {a_tape : Nat → Int32} {a_happened : Nat → Int64} {a_many : Nat → Int32} {a_sort : Nat → Int32} {a_one : Nat → Int32} {a_other : Nat → Int32} {a_low : Nat → Int32} {a_high : Nat → Int32} {a_begins : Nat → Int32} {a_out : Nat → Int32} {a_behind : Nat → Int32} {a_ahead : Nat → Int32} {a_most : Nat → Int32} {a_left : Nat → Int32} {a_far : Nat → Int32} {a_quarrel : Nat → Int32} {a_early : Nat → Int32} {a_earlyLast : Nat → Int32}    {res : Int32 × Int32 × Int32 × Int32 × Int64} (hf : f_X12_go_b86 m_size m_to m_from m_kind m_number m_name a_tape = some res) {H : Heap} {locs : List Loc} {ls : Array Slot} (hw : Wo D ad (Aw ad 19 s.heap.size) (eR ad y m_thrown m_taped m_size m_to m_from m_kind m_number m_fault m_place m_name m_happenings m_newHappenings m_heard m_outs m_bounds a_tape a_happened a_many a_sort a_one a_other a_low a_high a_begins a_out a_behind a_ahead a_most a_left a_far a_quarrel a_early a_earlyLast) s.heap H locs) (hl : lv_has ls 2 [(0, .ref (ad 0))]) : W p l e rm_X12_go s m args below meth c H locs 0 0 (QM_X12_go below args s D ad y (m_thrown) (m_taped) (m_size) (m_fault) (m_place) (m_happenings) (m_newHappenings) (m_heard) (m_outs) (m_bounds) (a_tape) (a_happened) (a_many) (a_sort) (a_one) (a_other) (a_low) (a_high) (a_begins) (a_out) (a_behind) (a_ahead) (a_most) (a_left) (a_far) (a_quarrel) (a_early) (a_earlyLast) res) (F0 m 86 ls []) := by
  obtain ⟨hx, hb, hr, hml, hown, hts, hlocks, hK, hst⟩ := id C0
  unfold f_X12_go_b86 at hf
  refine lv_aload_n hx hb dX12_go_86 rfl (lv_at hl 0 rfl) ?_
  obtain ⟨q12, hq12, hf⟩ := bd hf
  refine g_Vv (As := []) (rest := []) ⟨hx, hb, hml, hown, hts⟩ (k_X12_readWord hq12) (cwV 0 hts gX12_go_X12_readWord rfl rfl rfl (by decide +kernel) ⟨Nat.le_of_ble_eq_true rfl, Nat.le_of_ble_eq_true rfl⟩) STR_ok hst hK hw rfl eR_c0 rfl rfl hl.1 rfl (Nat.le_of_ble_eq_true rfl) dX12_go_87 ⟨Nat.zero_le _, Nat.zero_le _⟩ (fun H locs hw => ?_)
  have hw : Wo D ad (Aw ad 19 s.heap.size) (eR ad y m_thrown m_taped m_size q12.1 m_from q12.2.1 q12.2.2.1 m_fault m_place q12.2.2.2 m_happenings m_newHappenings m_heard m_outs m_bounds a_tape a_happened a_many a_sort a_one a_other a_low a_high a_begins a_out a_behind a_ahead a_most a_left a_far a_quarrel a_early a_earlyLast) s.heap H locs := hw
  obtain rfl := so hf
  exact W.vret hx hb hr (fun t ht _ => g_endv hw t ht) hw.2.2.2.2 dX12_go_90
set_option maxHeartbeats 4000000 in
set_option maxRecDepth 100000 in
theorem kb_X12_go_b103 {p : Program} {l : Launch} {e : Env} {s : State} {m : MethodId} {args : Array Value} {below : List Frame} {meth : Method} {c : Code} {D : va_G} {ad : Nat → Nat} {y : Nat → ClassId} (C0 : CXT wsX12_go cX12_go RX12 2 none D (tyL y) (STR ad) p s m args meth c) {m_thrown : Int32} {m_taped : Int32} {m_size : Int32} {m_to : Int32} {m_from : Int32} {m_kind : Int32} {m_number : Int32} {m_fault : Int32} {m_place : Int32} {m_name : Int64} {m_happenings : Int32} {m_newHappenings : Int32} {m_heard : Int32} {m_outs : Int32} {m_bounds : Int32} {a_tape : Nat → Int32} {a_happened : Nat → Int64} {a_many : Nat → Int32} {a_sort : Nat → Int32} {a_one : Nat → Int32} {a_other : Nat → Int32} {a_low : Nat → Int32} {a_high : Nat → Int32} {a_begins : Nat → Int32} {a_out : Nat → Int32} {a_behind : Nat → Int32} {a_ahead : Nat → Int32} {a_most : Nat → Int32} {a_left : Nat → Int32} {a_far : Nat → Int32} {a_quarrel : Nat → Int32} {a_early : Nat → Int32} {a_earlyLast : Nat → Int32}  {w0 : Int32}  {res : Int32 × Int32 × Int32 × Int32 × Int64} (hf : f_X12_go_b103 m_size m_to m_from m_kind m_number m_name a_tape w0 = some res) {H : Heap} {locs : List Loc} {ls : Array Slot} (hw : Wo D ad (Aw ad 19 s.heap.size) (eR ad y m_thrown m_taped m_size m_to m_from m_kind m_number m_fault m_place m_name m_happenings m_newHappenings m_heard m_outs m_bounds a_tape a_happened a_many a_sort a_one a_other a_low a_high a_begins a_out a_behind a_ahead a_most a_left a_far a_quarrel a_early a_earlyLast) s.heap H locs) (hl : lv_has ls 2 [(0, .ref (ad 0))]) : W p l e rm_X12_go s m args below meth c H locs 0 0 (QM_X12_go below args s D ad y (m_thrown) (m_taped) (m_size) (m_fault) (m_place) (m_happenings) (m_newHappenings) (m_heard) (m_outs) (m_bounds) (a_tape) (a_happened) (a_many) (a_sort) (a_one) (a_other) (a_low) (a_high) (a_begins) (a_out) (a_behind) (a_ahead) (a_most) (a_left) (a_far) (a_quarrel) (a_early) (a_earlyLast) res) (F0 m 103 ls [.int w0, .ref (ad 0)]) := by
  obtain ⟨hx, hb, hr, hml, hown, hts, hlocks, hK, hst⟩ := id C0
  have i_X12 : ∀ w ∈ u_ws RX12 TX12 33, w ∈ wsX12_go := by decide +kernel
  have L_92 := hts (.fieldLink RX12 92 "CaseOrderModel" "kind" "I") (by decide +kernel)
  have L_80 := hts (.fieldLink RX12 80 "CaseOrderModel" "to" "I") (by decide +kernel)
  unfold f_X12_go_b103 at hf
  refine g_put (ty := .int) hx hb hts i_X12 tyX12 tyX12_ok nmX12 hown hK hw 0 eR_c0 rfl 6 (by decide) L_92 (fun _ h => h) rfl (by decide +kernel) rfl rfl (Nat.le_of_ble_eq_true rfl) dX12_go_103 (fun H locs hw => ?_)
  have hw : Wo D ad (Aw ad 19 s.heap.size) (eR ad y m_thrown m_taped m_size m_to m_from w0 m_number m_fault m_place m_name m_happenings m_newHappenings m_heard m_outs m_bounds a_tape a_happened a_many a_sort a_one a_other a_low a_high a_begins a_out a_behind a_ahead a_most a_left a_far a_quarrel a_early a_earlyLast) s.heap H locs := hw
  refine lv_aload_n hx hb dX12_go_106 rfl (lv_at hl 0 rfl) ?_
  refine lv_dup hx hb dX12_go_107 rfl ?_
  refine g_get hx hb hts i_X12 hown hK hw 0 eR_c0 rfl 4 (by decide) L_80 (fun _ h => h) rfl dX12_go_108 ?_
  refine lv_iconst (v := 1) hx hb dX12_go_111 (by decide) ?_
  refine lv_iadd hx hb dX12_go_112 ?_
  refine g_put (ty := .int) hx hb hts i_X12 tyX12 tyX12_ok nmX12 hown hK hw 0 eR_c0 rfl 4 (by decide) L_80 (fun _ h => h) rfl (by decide +kernel) rfl rfl (Nat.le_of_ble_eq_true rfl) dX12_go_113 (fun H locs hw => ?_)
  have hw : Wo D ad (Aw ad 19 s.heap.size) (eR ad y m_thrown m_taped m_size (m_to + 1) m_from w0 m_number m_fault m_place m_name m_happenings m_newHappenings m_heard m_outs m_bounds a_tape a_happened a_many a_sort a_one a_other a_low a_high a_begins a_out a_behind a_ahead a_most a_left a_far a_quarrel a_early a_earlyLast) s.heap H locs := hw
  obtain rfl := so hf
  exact W.vret hx hb hr (fun t ht _ => g_endv hw t ht) hw.2.2.2.2 dX12_go_116
set_option maxHeartbeats 4000000 in
set_option maxRecDepth 100000 in
theorem kb_X12_go_b45 {p : Program} {l : Launch} {e : Env} {s : State} {m : MethodId} {args : Array Value} {below : List Frame} {meth : Method} {c : Code} {D : va_G} {ad : Nat → Nat} {y : Nat → ClassId} (C0 : CXT wsX12_go cX12_go RX12 2 none D (tyL y) (STR ad) p s m args meth c) {m_thrown : Int32} {m_taped : Int32} {m_size : Int32} {m_to : Int32} {m_from : Int32} {m_kind : Int32} {m_number : Int32} {m_fault : Int32} {m_place : Int32} {m_name : Int64} {m_happenings : Int32} {m_newHappenings : Int32} {m_heard : Int32} {m_outs : Int32} {m_bounds : Int32} {a_tape : Nat → Int32} {a_happened : Nat → Int64} {a_many : Nat → Int32} {a_sort : Nat → Int32} {a_one : Nat → Int32} {a_other : Nat → Int32} {a_low : Nat → Int32} {a_high : Nat → Int32} {a_begins : Nat → Int32} {a_out : Nat → Int32} {a_behind : Nat → Int32} {a_ahead : Nat → Int32} {a_most : Nat → Int32} {a_left : Nat → Int32} {a_far : Nat → Int32} {a_quarrel : Nat → Int32} {a_early : Nat → Int32} {a_earlyLast : Nat → Int32}    {res : Int32 × Int32 × Int32 × Int32 × Int64} (hf : f_X12_go_b45 m_size m_to m_from m_kind m_number m_name a_tape = some res) {H : Heap} {locs : List Loc} {ls : Array Slot} (hw : Wo D ad (Aw ad 19 s.heap.size) (eR ad y m_thrown m_taped m_size m_to m_from m_kind m_number m_fault m_place m_name m_happenings m_newHappenings m_heard m_outs m_bounds a_tape a_happened a_many a_sort a_one a_other a_low a_high a_begins a_out a_behind a_ahead a_most a_left a_far a_quarrel a_early a_earlyLast) s.heap H locs) (hl : lv_has ls 2 [(0, .ref (ad 0))]) : W p l e rm_X12_go s m args below meth c H locs 0 0 (QM_X12_go below args s D ad y (m_thrown) (m_taped) (m_size) (m_fault) (m_place) (m_happenings) (m_newHappenings) (m_heard) (m_outs) (m_bounds) (a_tape) (a_happened) (a_many) (a_sort) (a_one) (a_other) (a_low) (a_high) (a_begins) (a_out) (a_behind) (a_ahead) (a_most) (a_left) (a_far) (a_quarrel) (a_early) (a_earlyLast) res) (F0 m 45 ls []) := by
  obtain ⟨hx, hb, hr, hml, hown, hts, hlocks, hK, hst⟩ := id C0
  have i_X12 : ∀ w ∈ u_ws RX12 TX12 33, w ∈ wsX12_go := by decide +kernel
  have L_80 := hts (.fieldLink RX12 80 "CaseOrderModel" "to" "I") (by decide +kernel)
  have L_83 := hts (.fieldLink RX12 83 "CaseOrderModel" "size" "I") (by decide +kernel)
  have L_7 := hts (.fieldLink RX12 7 "CaseOrderModel" "tape" "[I") (by decide +kernel)
  have L_92 := hts (.fieldLink RX12 92 "CaseOrderModel" "kind" "I") (by decide +kernel)
  unfold f_X12_go_b45 at hf
  refine lv_aload_n hx hb dX12_go_45 rfl (lv_at hl 0 rfl) ?_
  refine g_get hx hb hts i_X12 hown hK hw 0 eR_c0 rfl 4 (by decide) L_80 (fun _ h => h) rfl dX12_go_46 ?_
  refine lv_aload_n hx hb dX12_go_49 rfl (lv_at hl 0 rfl) ?_
  refine g_get hx hb hts i_X12 hown hK hw 0 eR_c0 rfl 3 (by decide) L_83 (fun _ h => h) rfl dX12_go_50 ?_
  refine lv_icmp_lt (tgt := 62) hx hb dX12_go_53 (by decide) (fun c8 => ?_) (fun c8 => ?_)
  · have hf := it_p c8 hf
    refine lv_aload_n hx hb dX12_go_62 rfl (lv_at hl 0 rfl) ?_
    refine g_get hx hb hts i_X12 hown hK hw 0 eR_c0 rfl 1 (by decide) L_7 (fun _ h => h) rfl dX12_go_63 ?_
    refine lv_aload_n hx hb dX12_go_66 rfl (lv_at hl 0 rfl) ?_
    refine g_get hx hb hts i_X12 hown hK hw 0 eR_c0 rfl 4 (by decide) L_80 (fun _ h => h) rfl dX12_go_67 ?_
    obtain ⟨g9, hf⟩ := gIn_some hf
    refine g_iald hx hb hK hw 1 1 eR_c1 rfl g9 dX12_go_70 ?_
    refine lv_istore_n (lv' := [(1, .int (a_tape (Int32.toNatClampNeg m_to))), (0, .ref (ad 0))]) hx hb dX12_go_71 rfl hl (by decide) rfl (fun ls hl => ?_)
    refine lv_iload_n hx hb dX12_go_72 rfl (lv_at hl 0 rfl) ?_
    obtain ⟨q10, hq10, hf⟩ := bd hf
    refine g_Si (As := [.int (a_tape (Int32.toNatClampNeg m_to))]) (rest := []) ⟨hx, hb, hml, hown, hts⟩ (k_X12_isLetter hq10) (va_cwS 1 hts gX12_go_X12_isLetter rfl rfl rfl (by decide +kernel) ⟨Nat.le_of_ble_eq_true rfl, Nat.le_of_ble_eq_true rfl⟩) STR_ok hst hK hw rfl rfl hl.1 rfl (Nat.le_of_ble_eq_true rfl) dX12_go_73 ⟨Nat.zero_le _, Nat.zero_le _⟩ (fun H locs hw => ?_)
    refine lv_if_ne (tgt := 86) hx hb dX12_go_76 (by decide) (fun c11 => ?_) (fun c11 => ?_)
    · have hf := it_n c11 hf
      exact kb_X12_go_b86 C0 hf hw (lv_sub hl [1] rfl)
    · have hf := it_p c11 hf
      refine lv_iload_n hx hb dX12_go_79 rfl (lv_at hl 0 rfl) ?_
      obtain ⟨q13, hq13, hf⟩ := bd hf
      refine g_Si (As := [.int (a_tape (Int32.toNatClampNeg m_to))]) (rest := []) ⟨hx, hb, hml, hown, hts⟩ (k_X12_isDigit hq13) (va_cwS 1 hts gX12_go_X12_isDigit rfl rfl rfl (by decide +kernel) ⟨Nat.le_of_ble_eq_true rfl, Nat.le_of_ble_eq_true rfl⟩) STR_ok hst hK hw rfl rfl hl.1 rfl (Nat.le_of_ble_eq_true rfl) dX12_go_80 ⟨Nat.zero_le _, Nat.zero_le _⟩ (fun H locs hw => ?_)
      refine lv_if_eq (tgt := 91) hx hb dX12_go_83 (by decide) (fun c14 => ?_) (fun c14 => ?_)
      · have hf := it_p c14 hf
        refine lv_aload_n hx hb dX12_go_91 rfl (lv_at hl 1 rfl) ?_
        refine lv_iload_n hx hb dX12_go_92 rfl (lv_at hl 0 rfl) ?_
        refine lv_bipush (v := 59) hx hb dX12_go_93 (by decide) ?_
        refine lv_icmp_ne (tgt := 102) hx hb dX12_go_95 (by decide) (fun c15 => ?_) (fun c15 => ?_)
        · have hf := it_n c15 hf
          refine lv_iconst (v := 1) hx hb dX12_go_102 (by decide) ?_
          exact kb_X12_go_b103 C0 hf hw (lv_sub hl [1] rfl)
        · have hf := it_p c15 hf
          refine lv_iconst (v := 4) hx hb dX12_go_98 (by decide) ?_
          refine lv_goto (tgt := 103) hx hb dX12_go_99 (by decide) ?_
          exact kb_X12_go_b103 C0 hf hw (lv_sub hl [1] rfl)
      · have hf := it_n c14 hf
        exact kb_X12_go_b86 C0 hf hw (lv_sub hl [1] rfl)
  · have hf := it_n c8 hf
    refine lv_aload_n hx hb dX12_go_56 rfl (lv_at hl 0 rfl) ?_
    refine lv_iconst (v := 0) hx hb dX12_go_57 (by decide) ?_
    refine g_put (ty := .int) hx hb hts i_X12 tyX12 tyX12_ok nmX12 hown hK hw 0 eR_c0 rfl 6 (by decide) L_92 (fun _ h => h) rfl (by decide +kernel) rfl rfl (Nat.le_of_ble_eq_true rfl) dX12_go_58 (fun H locs hw => ?_)
    have hw : Wo D ad (Aw ad 19 s.heap.size) (eR ad y m_thrown m_taped m_size m_to m_from 0 m_number m_fault m_place m_name m_happenings m_newHappenings m_heard m_outs m_bounds a_tape a_happened a_many a_sort a_one a_other a_low a_high a_begins a_out a_behind a_ahead a_most a_left a_far a_quarrel a_early a_earlyLast) s.heap H locs := hw
    obtain rfl := so hf
    exact W.vret hx hb hr (fun t ht _ => g_endv hw t ht) hw.2.2.2.2 dX12_go_61
set_option maxHeartbeats 4000000 in
set_option maxRecDepth 100000 in
theorem ke_X12_go {p : Program} {l : Launch} {e : Env} {s : State} {m : MethodId} {args : Array Value} {below : List Frame} {meth : Method} {c : Code} {D : va_G} {ad : Nat → Nat} {y : Nat → ClassId} (C0 : CXT wsX12_go cX12_go RX12 2 none D (tyL y) (STR ad) p s m args meth c) {m_thrown : Int32} {m_taped : Int32} {m_size : Int32} {m_to : Int32} {m_from : Int32} {m_kind : Int32} {m_number : Int32} {m_fault : Int32} {m_place : Int32} {m_name : Int64} {m_happenings : Int32} {m_newHappenings : Int32} {m_heard : Int32} {m_outs : Int32} {m_bounds : Int32} {a_tape : Nat → Int32} {a_happened : Nat → Int64} {a_many : Nat → Int32} {a_sort : Nat → Int32} {a_one : Nat → Int32} {a_other : Nat → Int32} {a_low : Nat → Int32} {a_high : Nat → Int32} {a_begins : Nat → Int32} {a_out : Nat → Int32} {a_behind : Nat → Int32} {a_ahead : Nat → Int32} {a_most : Nat → Int32} {a_left : Nat → Int32} {a_far : Nat → Int32} {a_quarrel : Nat → Int32} {a_early : Nat → Int32} {a_earlyLast : Nat → Int32}  {res : Int32 × Int32 × Int32 × Int32 × Int64} (hf : f_X12_go m_size m_to m_from m_kind m_number m_name a_tape = some res) {H : Heap} {locs : List Loc} {ls : Array Slot} (hw : Wo D ad (Aw ad 19 s.heap.size) (eR ad y m_thrown m_taped m_size m_to m_from m_kind m_number m_fault m_place m_name m_happenings m_newHappenings m_heard m_outs m_bounds a_tape a_happened a_many a_sort a_one a_other a_low a_high a_begins a_out a_behind a_ahead a_most a_left a_far a_quarrel a_early a_earlyLast) s.heap H locs) (hl : lv_has ls 2 [(0, .ref (ad 0))]) : W p l e rm_X12_go s m args below meth c H locs 0 0 (QM_X12_go below args s D ad y (m_thrown) (m_taped) (m_size) (m_fault) (m_place) (m_happenings) (m_newHappenings) (m_heard) (m_outs) (m_bounds) (a_tape) (a_happened) (a_many) (a_sort) (a_one) (a_other) (a_low) (a_high) (a_begins) (a_out) (a_behind) (a_ahead) (a_most) (a_left) (a_far) (a_quarrel) (a_early) (a_earlyLast) res) (F0 m 0 ls []) := by
  obtain ⟨hx, hb, hr, hml, hown, hts, hlocks, hK, hst⟩ := id C0
  have i_X12 : ∀ w ∈ u_ws RX12 TX12 33, w ∈ wsX12_go := by decide +kernel
  have L_80 := hts (.fieldLink RX12 80 "CaseOrderModel" "to" "I") (by decide +kernel)
  have L_89 := hts (.fieldLink RX12 89 "CaseOrderModel" "from" "I") (by decide +kernel)
  have L_83 := hts (.fieldLink RX12 83 "CaseOrderModel" "size" "I") (by decide +kernel)
  have L_92 := hts (.fieldLink RX12 92 "CaseOrderModel" "kind" "I") (by decide +kernel)
  unfold f_X12_go at hf
  refine lv_aload_n hx hb dX12_go_0 rfl (lv_at hl 0 rfl) ?_
  obtain ⟨q6, hq6, hf⟩ := bd hf
  refine g_Vv (As := []) (rest := []) ⟨hx, hb, hml, hown, hts⟩ (k_X12_blanks hq6) (cwV 0 hts gX12_go_X12_blanks rfl rfl rfl (by decide +kernel) ⟨Nat.le_of_ble_eq_true rfl, Nat.le_of_ble_eq_true rfl⟩) STR_ok hst hK hw rfl eR_c0 rfl rfl hl.1 rfl (Nat.le_of_ble_eq_true rfl) dX12_go_1 ⟨Nat.zero_le _, Nat.zero_le _⟩ (fun H locs hw => ?_)
  have hw : Wo D ad (Aw ad 19 s.heap.size) (eR ad y m_thrown m_taped m_size q6 m_from m_kind m_number m_fault m_place m_name m_happenings m_newHappenings m_heard m_outs m_bounds a_tape a_happened a_many a_sort a_one a_other a_low a_high a_begins a_out a_behind a_ahead a_most a_left a_far a_quarrel a_early a_earlyLast) s.heap H locs := hw
  refine lv_aload_n hx hb dX12_go_4 rfl (lv_at hl 0 rfl) ?_
  refine lv_aload_n hx hb dX12_go_5 rfl (lv_at hl 0 rfl) ?_
  refine g_get hx hb hts i_X12 hown hK hw 0 eR_c0 rfl 4 (by decide) L_80 (fun _ h => h) rfl dX12_go_6 ?_
  refine g_put (ty := .int) hx hb hts i_X12 tyX12 tyX12_ok nmX12 hown hK hw 0 eR_c0 rfl 5 (by decide) L_89 (fun _ h => h) rfl (by decide +kernel) rfl rfl (Nat.le_of_ble_eq_true rfl) dX12_go_9 (fun H locs hw => ?_)
  have hw : Wo D ad (Aw ad 19 s.heap.size) (eR ad y m_thrown m_taped m_size q6 q6 m_kind m_number m_fault m_place m_name m_happenings m_newHappenings m_heard m_outs m_bounds a_tape a_happened a_many a_sort a_one a_other a_low a_high a_begins a_out a_behind a_ahead a_most a_left a_far a_quarrel a_early a_earlyLast) s.heap H locs := hw
  refine lv_aload_n hx hb dX12_go_12 rfl (lv_at hl 0 rfl) ?_
  refine g_get hx hb hts i_X12 hown hK hw 0 eR_c0 rfl 3 (by decide) L_83 (fun _ h => h) rfl dX12_go_13 ?_
  refine lv_sipush (v := 400) hx hb dX12_go_16 (by decide) ?_
  refine lv_icmp_le (tgt := 45) hx hb dX12_go_19 (by decide) (fun c7 => ?_) (fun c7 => ?_)
  · have hf := it_p c7 hf
    exact kb_X12_go_b45 C0 hf hw (lv_sub hl [0] rfl)
  · have hf := it_n c7 hf
    refine lv_aload_n hx hb dX12_go_22 rfl (lv_at hl 0 rfl) ?_
    refine g_get hx hb hts i_X12 hown hK hw 0 eR_c0 rfl 5 (by decide) L_89 (fun _ h => h) rfl dX12_go_23 ?_
    refine lv_sipush (v := 400) hx hb dX12_go_26 (by decide) ?_
    refine lv_icmp_lt (tgt := 45) hx hb dX12_go_29 (by decide) (fun c16 => ?_) (fun c16 => ?_)
    · have hf := it_p c16 hf
      exact kb_X12_go_b45 C0 hf hw (lv_sub hl [0] rfl)
    · have hf := it_n c16 hf
      refine lv_aload_n hx hb dX12_go_32 rfl (lv_at hl 0 rfl) ?_
      refine lv_sipush (v := 400) hx hb dX12_go_33 (by decide) ?_
      refine g_put (ty := .int) hx hb hts i_X12 tyX12 tyX12_ok nmX12 hown hK hw 0 eR_c0 rfl 5 (by decide) L_89 (fun _ h => h) rfl (by decide +kernel) rfl rfl (Nat.le_of_ble_eq_true rfl) dX12_go_36 (fun H locs hw => ?_)
      have hw : Wo D ad (Aw ad 19 s.heap.size) (eR ad y m_thrown m_taped m_size q6 400 m_kind m_number m_fault m_place m_name m_happenings m_newHappenings m_heard m_outs m_bounds a_tape a_happened a_many a_sort a_one a_other a_low a_high a_begins a_out a_behind a_ahead a_most a_left a_far a_quarrel a_early a_earlyLast) s.heap H locs := hw
      refine lv_aload_n hx hb dX12_go_39 rfl (lv_at hl 0 rfl) ?_
      refine lv_iconst (v := 1) hx hb dX12_go_40 (by decide) ?_
      refine g_put (ty := .int) hx hb hts i_X12 tyX12 tyX12_ok nmX12 hown hK hw 0 eR_c0 rfl 6 (by decide) L_92 (fun _ h => h) rfl (by decide +kernel) rfl rfl (Nat.le_of_ble_eq_true rfl) dX12_go_41 (fun H locs hw => ?_)
      have hw : Wo D ad (Aw ad 19 s.heap.size) (eR ad y m_thrown m_taped m_size q6 400 1 m_number m_fault m_place m_name m_happenings m_newHappenings m_heard m_outs m_bounds a_tape a_happened a_many a_sort a_one a_other a_low a_high a_begins a_out a_behind a_ahead a_most a_left a_far a_quarrel a_early a_earlyLast) s.heap H locs := hw
      obtain rfl := so hf
      exact W.vret hx hb hr (fun t ht _ => g_endv hw t ht) hw.2.2.2.2 dX12_go_44
set_option maxHeartbeats 4000000 in
theorem k_X12_go {l : Launch} {D : va_G} {ad : Nat → Nat} {y : Nat → ClassId} {m_thrown : Int32} {m_taped : Int32} {m_size : Int32} {m_to : Int32} {m_from : Int32} {m_kind : Int32} {m_number : Int32} {m_fault : Int32} {m_place : Int32} {m_name : Int64} {m_happenings : Int32} {m_newHappenings : Int32} {m_heard : Int32} {m_outs : Int32} {m_bounds : Int32} {a_tape : Nat → Int32} {a_happened : Nat → Int64} {a_many : Nat → Int32} {a_sort : Nat → Int32} {a_one : Nat → Int32} {a_other : Nat → Int32} {a_low : Nat → Int32} {a_high : Nat → Int32} {a_begins : Nat → Int32} {a_out : Nat → Int32} {a_behind : Nat → Int32} {a_ahead : Nat → Int32} {a_most : Nat → Int32} {a_left : Nat → Int32} {a_far : Nat → Int32} {a_quarrel : Nat → Int32} {a_early : Nat → Int32} {a_earlyLast : Nat → Int32}  {res : Int32 × Int32 × Int32 × Int32 × Int64} (hf : f_X12_go m_size m_to m_from m_kind m_number m_name a_tape = some res) : CTv l yX12_go wsX12_go rm_X12_go D ad 19 (tyL y) (STR ad) (eR ad y m_thrown m_taped m_size m_to m_from m_kind m_number m_fault m_place m_name m_happenings m_newHappenings m_heard m_outs m_bounds a_tape a_happened a_many a_sort a_one a_other a_low a_high a_begins a_out a_behind a_ahead a_most a_left a_far a_quarrel a_early a_earlyLast) (eR ad y m_thrown m_taped m_size res.1 res.2.1 res.2.2.1 res.2.2.2.1 m_fault m_place res.2.2.2.2 m_happenings m_newHappenings m_heard m_outs m_bounds a_tape a_happened a_many a_sort a_one a_other a_low a_high a_begins a_out a_behind a_ahead a_most a_left a_far a_quarrel a_early a_earlyLast) [.ref (ad 0)] := by
  intro sz
  refine Met.ofW (cc := cX12_go) (maxL := 2) (ret := none) (by decide) rfl ?_
  intro p e s m args below meth c s₁ B hml hv
  obtain ⟨rfl, hsz, hP, hK, hD0, hst⟩ := hv
  subst hsz
  have C0 : CXT wsX12_go cX12_go RX12 2 none D (tyL y) (STR ad) p s m ([.ref (ad 0)] : List Value).toArray meth c := ⟨B.exec, B.bytes, B.returns, hml, findClass_of_methodNamed B.named, atoms_spec (ws := wsX12_go) B.pre, B.notSynchronized, hK, hst⟩
  have hw := g_start (n := 19) rfl hP hD0
  have hl := lv_entry ([.ref (ad 0)]) (n := 2) (Nat.le_of_ble_eq_true rfl)
  rw [lg_entry_eq]
  generalize (lg_sl ([.ref (ad 0)]) ++ List.replicate (2 - (lg_sl ([.ref (ad 0)])).length) Slot.unset).toArray = ls at hl ⊢
  have hl : lv_has ls 2 [(0, .ref (ad 0))] := hl
  exact ke_X12_go C0 hf hw hl
