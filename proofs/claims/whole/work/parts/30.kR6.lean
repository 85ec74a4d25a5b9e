abbrev rm_X12_bitsOf : Room := { frames := 0, cells := 0, slots := 0, locals := 0 }
abbrev QM_X12_bitsOf (below : List Frame) (args : Array Value) (s : State) (D : va_G) (ad : Nat → Nat) (y : Nat → ClassId) (m_thrown : Int32) (m_taped : Int32) (m_size : Int32) (m_to : Int32) (m_from : Int32) (m_kind : Int32) (m_number : Int32) (m_fault : Int32) (m_place : Int32) (m_name : Int64) (m_happenings : Int32) (m_newHappenings : Int32) (m_heard : Int32) (m_outs : Int32) (m_bounds : Int32) (a_tape : Nat → Int32) (a_happened : Nat → Int64) (a_many : Nat → Int32) (a_sort : Nat → Int32) (a_one : Nat → Int32) (a_other : Nat → Int32) (a_low : Nat → Int32) (a_high : Nat → Int32) (a_begins : Nat → Int32) (a_out : Nat → Int32) (a_behind : Nat → Int32) (a_ahead : Nat → Int32) (a_most : Nat → Int32) (a_left : Nat → Int32) (a_far : Nat → Int32) (a_quarrel : Nat → Int32) (a_early : Nat → Int32) (a_earlyLast : Nat → Int32) (res : Int32) : State → Prop := MQ below (va_Qi (fun x (_ : Unit) => x = res) (fun _ t => va_P D vwCl (wls ad (eR ad y m_thrown m_taped m_size m_to m_from m_kind m_number m_fault m_place m_name m_happenings m_newHappenings m_heard m_outs m_bounds a_tape a_happened a_many a_sort a_one a_other a_low a_high a_begins a_out a_behind a_ahead a_most a_left a_far a_quarrel a_early a_earlyLast)) t.heap) (Aw ad 19 s.heap.size)) args s 0 0 (Aw ad 19 s.heap.size)
set_option maxHeartbeats 4000000 in
set_option maxRecDepth 100000 in
theorem kw_X12_bitsOf_4 {p : Program} {l : Launch} {e : Env} {s : State} {m : MethodId} {args : Array Value} {below : List Frame} {meth : Method} {c : Code} {D : va_G} {ad : Nat → Nat} {y : Nat → ClassId} (C0 : CXT wsX12_bitsOf cX12_bitsOf RX12 3 (some .int) D (tyL y) (STR ad) p s m args meth c) {m_thrown : Int32} {m_taped : Int32} {m_size : Int32} {m_to : Int32} {m_from : Int32} {m_kind : Int32} {m_number : Int32} {m_fault : Int32} {m_place : Int32} {m_name : Int64} {m_happenings : Int32} {m_newHappenings : Int32} {m_heard : Int32} {m_outs : Int32} {m_bounds : Int32} {a_tape : Nat → Int32} {a_happened : Nat → Int64} {a_many : Nat → Int32} {a_sort : Nat → Int32} {a_one : Nat → Int32} {a_other : Nat → Int32} {a_low : Nat → Int32} {a_high : Nat → Int32} {a_begins : Nat → Int32} {a_out : Nat → Int32} {a_behind : Nat → Int32} {a_ahead : Nat → Int32} {a_most : Nat → Int32} {a_left : Nat → Int32} {a_far : Nat → Int32} {a_quarrel : Nat → Int32} {a_early : Nat → Int32} {a_earlyLast : Nat → Int32} {u0 : Int32} {res : Int32} {sg : Int32 × Int32} {o : (Int32 × Int32) ⊕ (Int32 × Int32)} (hf : f_X12_bitsOf_l4 u0 sg = some o) {H : Heap} {locs : List Loc} {ls : Array Slot} (hw : Wo D ad (Aw ad 19 s.heap.size) (eR ad y m_thrown m_taped m_size m_to m_from m_kind m_number m_fault m_place m_name m_happenings m_newHappenings m_heard m_outs m_bounds a_tape a_happened a_many a_sort a_one a_other a_low a_high a_begins a_out a_behind a_ahead a_most a_left a_far a_quarrel a_early a_earlyLast) s.heap H locs) (hl : lv_has ls 3 [(0, .int u0), (1, .int sg.1), (2, .int sg.2)]) (hcont : ∀ s2, o = .inl s2 → ∀ (H : Heap) (locs : List Loc) (ls : Array Slot), Wo D ad (Aw ad 19 s.heap.size) (eR ad y m_thrown m_taped m_size m_to m_from m_kind m_number m_fault m_place m_name m_happenings m_newHappenings m_heard m_outs m_bounds a_tape a_happened a_many a_sort a_one a_other a_low a_high a_begins a_out a_behind a_ahead a_most a_left a_far a_quarrel a_early a_earlyLast) s.heap H locs → lv_has ls 3 [(0, .int u0), (1, .int s2.1), (2, .int s2.2)] → W p l e rm_X12_bitsOf s m args below meth c H locs 0 0 (QM_X12_bitsOf below args s D ad y (m_thrown) (m_taped) (m_size) (m_to) (m_from) (m_kind) (m_number) (m_fault) (m_place) (m_name) (m_happenings) (m_newHappenings) (m_heard) (m_outs) (m_bounds) (a_tape) (a_happened) (a_many) (a_sort) (a_one) (a_other) (a_low) (a_high) (a_begins) (a_out) (a_behind) (a_ahead) (a_most) (a_left) (a_far) (a_quarrel) (a_early) (a_earlyLast) res) (F0 m 4 ls [])) (hexit : ∀ t, o = .inr t → ∀ (H : Heap) (locs : List Loc) (ls : Array Slot), Wo D ad (Aw ad 19 s.heap.size) (eR ad y m_thrown m_taped m_size m_to m_from m_kind m_number m_fault m_place m_name m_happenings m_newHappenings m_heard m_outs m_bounds a_tape a_happened a_many a_sort a_one a_other a_low a_high a_begins a_out a_behind a_ahead a_most a_left a_far a_quarrel a_early a_earlyLast) s.heap H locs → lv_has ls 3 [(0, .int u0), (1, .int t.1), (2, .int t.2)] → W p l e rm_X12_bitsOf s m args below meth c H locs 0 0 (QM_X12_bitsOf below args s D ad y (m_thrown) (m_taped) (m_size) (m_to) (m_from) (m_kind) (m_number) (m_fault) (m_place) (m_name) (m_happenings) (m_newHappenings) (m_heard) (m_outs) (m_bounds) (a_tape) (a_happened) (a_many) (a_sort) (a_one) (a_other) (a_low) (a_high) (a_begins) (a_out) (a_behind) (a_ahead) (a_most) (a_left) (a_far) (a_quarrel) (a_early) (a_earlyLast) res) (F0 m 24 ls [])) : W p l e rm_X12_bitsOf s m args below meth c H locs 0 0 (QM_X12_bitsOf below args s D ad y (m_thrown) (m_taped) (m_size) (m_to) (m_from) (m_kind) (m_number) (m_fault) (m_place) (m_name) (m_happenings) (m_newHappenings) (m_heard) (m_outs) (m_bounds) (a_tape) (a_happened) (a_many) (a_sort) (a_one) (a_other) (a_low) (a_high) (a_begins) (a_out) (a_behind) (a_ahead) (a_most) (a_left) (a_far) (a_quarrel) (a_early) (a_earlyLast) res) (F0 m 4 ls []) := by
  obtain ⟨hx, hb, hr, hml, hown, hts, hlocks, hK, hst⟩ := id C0
  unfold f_X12_bitsOf_l4 at hf
  refine lv_iload_n hx hb dX12_bitsOf_4 rfl (lv_at hl 2 rfl) ?_
  refine lv_bipush (v := 6) hx hb dX12_bitsOf_5 (by decide) ?_
  refine lv_icmp_ge (tgt := 24) hx hb dX12_bitsOf_7 (by decide) (fun c1 => ?_) (fun c1 => ?_)
  · have hf := it_p c1 hf
    exact hexit _ (so hf).symm _ _ _ hw (lv_sub hl [0, 1, 2] rfl)
  · have hf := it_n c1 hf
    refine lv_iload_n hx hb dX12_bitsOf_10 rfl (lv_at hl 1 rfl) ?_
    refine lv_iload_n hx hb dX12_bitsOf_11 rfl (lv_at hl 0 rfl) ?_
    refine lv_iload_n hx hb dX12_bitsOf_12 rfl (lv_at hl 2 rfl) ?_
    refine lv_ishr hx hb dX12_bitsOf_13 ?_
    refine lv_iconst (v := 1) hx hb dX12_bitsOf_14 (by decide) ?_
    refine lv_iand hx hb dX12_bitsOf_15 ?_
    refine lv_iadd hx hb dX12_bitsOf_16 ?_
    refine lv_istore_n (lv' := [(1, .int (sg.1 + ((u0 >>> (sg.2 &&& 31)) &&& 1))), (0, .int u0), (2, .int sg.2)]) hx hb dX12_bitsOf_17 rfl hl (by decide) rfl (fun ls hl => ?_)
    refine lv_iinc (v := sg.2 + 1) (lv' := [(2, .int (sg.2 + 1)), (1, .int (sg.1 + ((u0 >>> (sg.2 &&& 31)) &&& 1))), (0, .int u0)]) hx hb dX12_bitsOf_18 hl (k := 2) rfl rfl (by decide) rfl (fun ls hl => ?_)
    refine lv_goto (tgt := 4) hx hb dX12_bitsOf_21 (by decide) ?_
    exact hcont _ (so hf).symm _ _ _ hw (lv_sub hl [2, 1, 0] rfl)
set_option maxHeartbeats 4000000 in
theorem kl_X12_bitsOf_4 {p : Program} {l : Launch} {e : Env} {s : State} {m : MethodId} {args : Array Value} {below : List Frame} {meth : Method} {c : Code} {D : va_G} {ad : Nat → Nat} {y : Nat → ClassId} (C0 : CXT wsX12_bitsOf cX12_bitsOf RX12 3 (some .int) D (tyL y) (STR ad) p s m args meth c) {m_thrown : Int32} {m_taped : Int32} {m_size : Int32} {m_to : Int32} {m_from : Int32} {m_kind : Int32} {m_number : Int32} {m_fault : Int32} {m_place : Int32} {m_name : Int64} {m_happenings : Int32} {m_newHappenings : Int32} {m_heard : Int32} {m_outs : Int32} {m_bounds : Int32} {a_tape : Nat → Int32} {a_happened : Nat → Int64} {a_many : Nat → Int32} {a_sort : Nat → Int32} {a_one : Nat → Int32} {a_other : Nat → Int32} {a_low : Nat → Int32} {a_high : Nat → Int32} {a_begins : Nat → Int32} {a_out : Nat → Int32} {a_behind : Nat → Int32} {a_ahead : Nat → Int32} {a_most : Nat → Int32} {a_left : Nat → Int32} {a_far : Nat → Int32} {a_quarrel : Nat → Int32} {a_early : Nat → Int32} {a_earlyLast : Nat → Int32} {u0 : Int32} {res : Int32} : ∀ (n : Nat) (sg : Int32 × Int32) (q : Int32 × Int32), lp (f_X12_bitsOf_l4 u0) n sg = some q → ∀ (H : Heap) (locs : List Loc) (ls : Array Slot), Wo D ad (Aw ad 19 s.heap.size) (eR ad y m_thrown m_taped m_size m_to m_from m_kind m_number m_fault m_place m_name m_happenings m_newHappenings m_heard m_outs m_bounds a_tape a_happened a_many a_sort a_one a_other a_low a_high a_begins a_out a_behind a_ahead a_most a_left a_far a_quarrel a_early a_earlyLast) s.heap H locs → lv_has ls 3 [(0, .int u0), (1, .int sg.1), (2, .int sg.2)] → (∀ (H : Heap) (locs : List Loc) (ls : Array Slot), Wo D ad (Aw ad 19 s.heap.size) (eR ad y m_thrown m_taped m_size m_to m_from m_kind m_number m_fault m_place m_name m_happenings m_newHappenings m_heard m_outs m_bounds a_tape a_happened a_many a_sort a_one a_other a_low a_high a_begins a_out a_behind a_ahead a_most a_left a_far a_quarrel a_early a_earlyLast) s.heap H locs → lv_has ls 3 [(0, .int u0), (1, .int q.1), (2, .int q.2)] → W p l e rm_X12_bitsOf s m args below meth c H locs 0 0 (QM_X12_bitsOf below args s D ad y (m_thrown) (m_taped) (m_size) (m_to) (m_from) (m_kind) (m_number) (m_fault) (m_place) (m_name) (m_happenings) (m_newHappenings) (m_heard) (m_outs) (m_bounds) (a_tape) (a_happened) (a_many) (a_sort) (a_one) (a_other) (a_low) (a_high) (a_begins) (a_out) (a_behind) (a_ahead) (a_most) (a_left) (a_far) (a_quarrel) (a_early) (a_earlyLast) res) (F0 m 24 ls [])) → W p l e rm_X12_bitsOf s m args below meth c H locs 0 0 (QM_X12_bitsOf below args s D ad y (m_thrown) (m_taped) (m_size) (m_to) (m_from) (m_kind) (m_number) (m_fault) (m_place) (m_name) (m_happenings) (m_newHappenings) (m_heard) (m_outs) (m_bounds) (a_tape) (a_happened) (a_many) (a_sort) (a_one) (a_other) (a_low) (a_high) (a_begins) (a_out) (a_behind) (a_ahead) (a_most) (a_left) (a_far) (a_quarrel) (a_early) (a_earlyLast) res) (F0 m 4 ls []) := by
  intro n
  induction n with
  | zero => intro sg q hf; exact absurd hf lp_zero
  | succ n ih =>
    intro sg q hf H locs ls hw hl hexit
    rcases lp_succ hf with ⟨sg2, h1, h2⟩ | h1
    · exact kw_X12_bitsOf_4 C0 h1 hw hl (fun s2 e2 H locs ls hw hl => by cases e2; exact ih _ q h2 H locs ls hw hl hexit) (fun t e2 => by cases e2)
    · exact kw_X12_bitsOf_4 C0 h1 hw hl (fun s2 e2 => by cases e2) (fun t e2 => by cases e2; exact hexit)
set_option maxHeartbeats 4000000 in
set_option maxRecDepth 100000 in
theorem ke_X12_bitsOf {p : Program} {l : Launch} {e : Env} {s : State} {m : MethodId} {args : Array Value} {below : List Frame} {meth : Method} {c : Code} {D : va_G} {ad : Nat → Nat} {y : Nat → ClassId} (C0 : CXT wsX12_bitsOf cX12_bitsOf RX12 3 (some .int) D (tyL y) (STR ad) p s m args meth c) {m_thrown : Int32} {m_taped : Int32} {m_size : Int32} {m_to : Int32} {m_from : Int32} {m_kind : Int32} {m_number : Int32} {m_fault : Int32} {m_place : Int32} {m_name : Int64} {m_happenings : Int32} {m_newHappenings : Int32} {m_heard : Int32} {m_outs : Int32} {m_bounds : Int32} {a_tape : Nat → Int32} {a_happened : Nat → Int64} {a_many : Nat → Int32} {a_sort : Nat → Int32} {a_one : Nat → Int32} {a_other : Nat → Int32} {a_low : Nat → Int32} {a_high : Nat → Int32} {a_begins : Nat → Int32} {a_out : Nat → Int32} {a_behind : Nat → Int32} {a_ahead : Nat → Int32} {a_most : Nat → Int32} {a_left : Nat → Int32} {a_far : Nat → Int32} {a_quarrel : Nat → Int32} {a_early : Nat → Int32} {a_earlyLast : Nat → Int32} {p0 : Int32} {res : Int32} (hf : f_X12_bitsOf p0 = some res) {H : Heap} {locs : List Loc} {ls : Array Slot} (hw : Wo D ad (Aw ad 19 s.heap.size) (eR ad y m_thrown m_taped m_size m_to m_from m_kind m_number m_fault m_place m_name m_happenings m_newHappenings m_heard m_outs m_bounds a_tape a_happened a_many a_sort a_one a_other a_low a_high a_begins a_out a_behind a_ahead a_most a_left a_far a_quarrel a_early a_earlyLast) s.heap H locs) (hl : lv_has ls 3 [(0, .int p0)]) : W p l e rm_X12_bitsOf s m args below meth c H locs 0 0 (QM_X12_bitsOf below args s D ad y (m_thrown) (m_taped) (m_size) (m_to) (m_from) (m_kind) (m_number) (m_fault) (m_place) (m_name) (m_happenings) (m_newHappenings) (m_heard) (m_outs) (m_bounds) (a_tape) (a_happened) (a_many) (a_sort) (a_one) (a_other) (a_low) (a_high) (a_begins) (a_out) (a_behind) (a_ahead) (a_most) (a_left) (a_far) (a_quarrel) (a_early) (a_earlyLast) res) (F0 m 0 ls []) := by
  obtain ⟨hx, hb, hr, hml, hown, hts, hlocks, hK, hst⟩ := id C0
  unfold f_X12_bitsOf at hf
  refine lv_iconst (v := 0) hx hb dX12_bitsOf_0 (by decide) ?_
  refine lv_istore_n (lv' := [(1, .int 0), (0, .int p0)]) hx hb dX12_bitsOf_1 rfl hl (by decide) rfl (fun ls hl => ?_)
  refine lv_iconst (v := 0) hx hb dX12_bitsOf_2 (by decide) ?_
  refine lv_istore_n (lv' := [(2, .int 0), (1, .int 0), (0, .int p0)]) hx hb dX12_bitsOf_3 rfl hl (by decide) rfl (fun ls hl => ?_)
  obtain ⟨q2, hq2, hf⟩ := bd hf
  refine kl_X12_bitsOf_4 C0 gFU _ _ hq2 _ _ _ hw (lv_sub hl [2, 1, 0] rfl) (fun H locs ls hw hl => ?_)
  have hw : Wo D ad (Aw ad 19 s.heap.size) (eR ad y m_thrown m_taped m_size m_to m_from m_kind m_number m_fault m_place m_name m_happenings m_newHappenings m_heard m_outs m_bounds a_tape a_happened a_many a_sort a_one a_other a_low a_high a_begins a_out a_behind a_ahead a_most a_left a_far a_quarrel a_early a_earlyLast) s.heap H locs := hw
  have hl : lv_has ls 3 [(0, .int p0), (1, .int q2.1), (2, .int q2.2)] := hl
  refine lv_iload_n hx hb dX12_bitsOf_24 rfl (lv_at hl 1 rfl) ?_
  obtain rfl := so hf
  exact W.iret (v := q2.1) hx hb hr (fun t ht _ => g_end hw t ht) hw.2.2.2.2 dX12_bitsOf_25
set_option maxHeartbeats 4000000 in
theorem k_X12_bitsOf {l : Launch} {D : va_G} {ad : Nat → Nat} {y : Nat → ClassId} {m_thrown : Int32} {m_taped : Int32} {m_size : Int32} {m_to : Int32} {m_from : Int32} {m_kind : Int32} {m_number : Int32} {m_fault : Int32} {m_place : Int32} {m_name : Int64} {m_happenings : Int32} {m_newHappenings : Int32} {m_heard : Int32} {m_outs : Int32} {m_bounds : Int32} {a_tape : Nat → Int32} {a_happened : Nat → Int64} {a_many : Nat → Int32} {a_sort : Nat → Int32} {a_one : Nat → Int32} {a_other : Nat → Int32} {a_low : Nat → Int32} {a_high : Nat → Int32} {a_begins : Nat → Int32} {a_out : Nat → Int32} {a_behind : Nat → Int32} {a_ahead : Nat → Int32} {a_most : Nat → Int32} {a_left : Nat → Int32} {a_far : Nat → Int32} {a_quarrel : Nat → Int32} {a_early : Nat → Int32} {a_earlyLast : Nat → Int32} {p0 : Int32} {res : Int32} (hf : f_X12_bitsOf p0 = some res) : CTi l yX12_bitsOf wsX12_bitsOf rm_X12_bitsOf D ad 19 (tyL y) (STR ad) (eR ad y m_thrown m_taped m_size m_to m_from m_kind m_number m_fault m_place m_name m_happenings m_newHappenings m_heard m_outs m_bounds a_tape a_happened a_many a_sort a_one a_other a_low a_high a_begins a_out a_behind a_ahead a_most a_left a_far a_quarrel a_early a_earlyLast) (eR ad y m_thrown m_taped m_size m_to m_from m_kind m_number m_fault m_place m_name m_happenings m_newHappenings m_heard m_outs m_bounds a_tape a_happened a_many a_sort a_one a_other a_low a_high a_begins a_out a_behind a_ahead a_most a_left a_far a_quarrel a_early a_earlyLast) [.int p0] res := by
  intro sz
  refine Met.ofW (cc := cX12_bitsOf) (maxL := 3) (ret := (some .int)) (by decide) rfl ?_
  intro p e s m args below meth c s₁ B hml hv
  obtain ⟨rfl, hsz, hP, hK, hD0, hst⟩ := hv
  subst hsz
  have C0 : CXT wsX12_bitsOf cX12_bitsOf RX12 3 (some .int) D (tyL y) (STR ad) p s m ([.int p0] : List Value).toArray meth c := ⟨B.exec, B.bytes, B.returns, hml, findClass_of_methodNamed B.named, atoms_spec (ws := wsX12_bitsOf) B.pre, B.notSynchronized, hK, hst⟩
  have hw := g_start (n := 19) rfl hP hD0
  have hl := lv_entry ([.int p0]) (n := 3) (Nat.le_of_ble_eq_true rfl)
  rw [lg_entry_eq]
  generalize (lg_sl ([.int p0]) ++ List.replicate (3 - (lg_sl ([.int p0])).length) Slot.unset).toArray = ls at hl ⊢
  have hl : lv_has ls 3 [(0, .int p0)] := hl
  exact ke_X12_bitsOf C0 hf hw hl
abbrev rm_X12_leave : Room := { frames := 5, cells := 0, slots := 0, locals := 115 }
abbrev QM_X12_leave (below : List Frame) (args : Array Value) (s : State) (D : va_G) (ad : Nat → Nat) (y : Nat → ClassId) (m_taped : Int32) (m_size : Int32) (m_to : Int32) (m_from : Int32) (m_kind : Int32) (m_number : Int32) (m_fault : Int32) (m_place : Int32) (m_name : Int64) (m_happenings : Int32) (m_newHappenings : Int32) (m_heard : Int32) (m_outs : Int32) (a_tape : Nat → Int32) (a_happened : Nat → Int64) (a_many : Nat → Int32) (a_sort : Nat → Int32) (a_one : Nat → Int32) (a_other : Nat → Int32) (a_low : Nat → Int32) (a_high : Nat → Int32) (a_begins : Nat → Int32) (a_out : Nat → Int32) (a_quarrel : Nat → Int32) (a_early : Nat → Int32) (a_earlyLast : Nat → Int32) (res : Int32 × Int32 × Int32 × (Nat → Int32) × (Nat → Int32) × (Nat → Int32) × (Nat → Int32) × (Nat → Int32)) : State → Prop := MQ below (va_Qi (fun x (_ : Unit) => x = res.1) (fun _ t => va_P D vwCl (wls ad (eR ad y res.2.1 m_taped m_size m_to m_from m_kind m_number m_fault m_place m_name m_happenings m_newHappenings m_heard m_outs res.2.2.1 a_tape a_happened a_many a_sort a_one a_other a_low a_high a_begins a_out res.2.2.2.1 res.2.2.2.2.1 res.2.2.2.2.2.1 res.2.2.2.2.2.2.1 res.2.2.2.2.2.2.2 a_quarrel a_early a_earlyLast)) t.heap) (Aw ad 19 s.heap.size)) args s 0 0 (Aw ad 19 s.heap.size)
set_option maxHeartbeats 4000000 in
set_option maxRecDepth 100000 in
theorem kw_X12_leave_16 {p : Program} {l : Launch} {e : Env} {s : State} {m : MethodId} {args : Array Value} {below : List Frame} {meth : Method} {c : Code} {D : va_G} {ad : Nat → Nat} {y : Nat → ClassId} (C0 : CXT wsX12_leave cX12_leave RX12 3 (some .int) D (tyL y) (STR ad) p s m args meth c) {m_thrown : Int32} {m_taped : Int32} {m_size : Int32} {m_to : Int32} {m_from : Int32} {m_kind : Int32} {m_number : Int32} {m_fault : Int32} {m_place : Int32} {m_name : Int64} {m_happenings : Int32} {m_newHappenings : Int32} {m_heard : Int32} {m_outs : Int32} {a_tape : Nat → Int32} {a_happened : Nat → Int64} {a_many : Nat → Int32} {a_sort : Nat → Int32} {a_one : Nat → Int32} {a_other : Nat → Int32} {a_low : Nat → Int32} {a_high : Nat → Int32} {a_begins : Nat → Int32} {a_out : Nat → Int32} {a_left : Nat → Int32} {a_quarrel : Nat → Int32} {a_early : Nat → Int32} {a_earlyLast : Nat → Int32}  {res : Int32 × Int32 × Int32 × (Nat → Int32) × (Nat → Int32) × (Nat → Int32) × (Nat → Int32) × (Nat → Int32)} {sg : Int32 × Int32 × Int32 × (Nat → Int32) × (Nat → Int32) × (Nat → Int32) × (Nat → Int32)} {o : (Int32 × Int32 × Int32 × (Nat → Int32) × (Nat → Int32) × (Nat → Int32) × (Nat → Int32)) ⊕ (Int32 × Int32 × Int32 × (Nat → Int32) × (Nat → Int32) × (Nat → Int32) × (Nat → Int32))} (hf : f_X12_leave_l16 m_thrown m_happenings m_heard a_many a_sort a_one a_other a_low a_high a_left sg = some o) {H : Heap} {locs : List Loc} {ls : Array Slot} (hw : Wo D ad (Aw ad 19 s.heap.size) (eR ad y m_thrown m_taped m_size m_to m_from m_kind m_number m_fault m_place m_name m_happenings m_newHappenings m_heard m_outs sg.2.2.1 a_tape a_happened a_many a_sort a_one a_other a_low a_high a_begins a_out sg.2.2.2.1 sg.2.2.2.2.1 sg.2.2.2.2.2.1 a_left sg.2.2.2.2.2.2 a_quarrel a_early a_earlyLast) s.heap H locs) (hl : lv_has ls 3 [(0, .ref (ad 0)), (1, .int sg.1), (2, .int sg.2.1)]) (hcont : ∀ s2, o = .inl s2 → ∀ (H : Heap) (locs : List Loc) (ls : Array Slot), Wo D ad (Aw ad 19 s.heap.size) (eR ad y m_thrown m_taped m_size m_to m_from m_kind m_number m_fault m_place m_name m_happenings m_newHappenings m_heard m_outs s2.2.2.1 a_tape a_happened a_many a_sort a_one a_other a_low a_high a_begins a_out s2.2.2.2.1 s2.2.2.2.2.1 s2.2.2.2.2.2.1 a_left s2.2.2.2.2.2.2 a_quarrel a_early a_earlyLast) s.heap H locs → lv_has ls 3 [(0, .ref (ad 0)), (1, .int s2.1), (2, .int s2.2.1)] → W p l e rm_X12_leave s m args below meth c H locs 0 0 (QM_X12_leave below args s D ad y (m_taped) (m_size) (m_to) (m_from) (m_kind) (m_number) (m_fault) (m_place) (m_name) (m_happenings) (m_newHappenings) (m_heard) (m_outs) (a_tape) (a_happened) (a_many) (a_sort) (a_one) (a_other) (a_low) (a_high) (a_begins) (a_out) (a_quarrel) (a_early) (a_earlyLast) res) (F0 m 16 ls [])) (hexit : ∀ t, o = .inr t → ∀ (H : Heap) (locs : List Loc) (ls : Array Slot), Wo D ad (Aw ad 19 s.heap.size) (eR ad y m_thrown m_taped m_size m_to m_from m_kind m_number m_fault m_place m_name m_happenings m_newHappenings m_heard m_outs t.2.2.1 a_tape a_happened a_many a_sort a_one a_other a_low a_high a_begins a_out t.2.2.2.1 t.2.2.2.2.1 t.2.2.2.2.2.1 a_left t.2.2.2.2.2.2 a_quarrel a_early a_earlyLast) s.heap H locs → lv_has ls 3 [(0, .ref (ad 0)), (1, .int t.1), (2, .int t.2.1)] → W p l e rm_X12_leave s m args below meth c H locs 0 0 (QM_X12_leave below args s D ad y (m_taped) (m_size) (m_to) (m_from) (m_kind) (m_number) (m_fault) (m_place) (m_name) (m_happenings) (m_newHappenings) (m_heard) (m_outs) (a_tape) (a_happened) (a_many) (a_sort) (a_one) (a_other) (a_low) (a_high) (a_begins) (a_out) (a_quarrel) (a_early) (a_earlyLast) res) (F0 m 67 ls [])) : W p l e rm_X12_leave s m args below meth c H locs 0 0 (QM_X12_leave below args s D ad y (m_taped) (m_size) (m_to) (m_from) (m_kind) (m_number) (m_fault) (m_place) (m_name) (m_happenings) (m_newHappenings) (m_heard) (m_outs) (a_tape) (a_happened) (a_many) (a_sort) (a_one) (a_other) (a_low) (a_high) (a_begins) (a_out) (a_quarrel) (a_early) (a_earlyLast) res) (F0 m 16 ls []) := by
  obtain ⟨hx, hb, hr, hml, hown, hts, hlocks, hK, hst⟩ := id C0
  have i_X12 : ∀ w ∈ u_ws RX12 TX12 33, w ∈ wsX12_leave := by decide +kernel
  have L_38 := hts (.fieldLink RX12 38 "CaseOrderModel" "heard" "I") (by decide +kernel)
  unfold f_X12_leave_l16 at hf
  refine lv_iload_n hx hb dX12_leave_16 rfl (lv_at hl 2 rfl) ?_
  refine lv_bipush (v := 64) hx hb dX12_leave_17 (by decide) ?_
  refine lv_icmp_ge (tgt := 67) hx hb dX12_leave_19 (by decide) (fun c6 => ?_) (fun c6 => ?_)
  · have hf := it_p c6 hf
    exact hexit _ (so hf).symm _ _ _ hw (lv_sub hl [0, 1, 2] rfl)
  · have hf := it_n c6 hf
    refine lv_iload_n hx hb dX12_leave_22 rfl (lv_at hl 2 rfl) ?_
    refine lv_aload_n hx hb dX12_leave_23 rfl (lv_at hl 0 rfl) ?_
    refine g_get hx hb hts i_X12 hown hK hw 0 eR_c0 rfl 21 (by decide) L_38 (fun _ h => h) rfl dX12_leave_24 ?_
    refine lv_iconst (v := (-1)) hx hb dX12_leave_27 (by decide) ?_
    refine lv_ixor hx hb dX12_leave_28 ?_
    refine lv_iand hx hb dX12_leave_29 ?_
    refine lv_if_ne (tgt := 61) hx hb dX12_leave_30 (by decide) (fun c7 => ?_) (fun c7 => ?_)
    · have hf := it_n c7 hf
      refine lv_iinc (v := sg.2.1 + 1) (lv' := [(2, .int (sg.2.1 + 1)), (0, .ref (ad 0)), (1, .int sg.1)]) hx hb dX12_leave_61 hl (k := 2) rfl rfl (by decide) rfl (fun ls hl => ?_)
      refine lv_goto (tgt := 16) hx hb dX12_leave_64 (by decide) ?_
      exact hcont _ (so hf).symm _ _ _ hw (lv_sub hl [1, 2, 0] rfl)
    · have hf := it_p c7 hf
      refine lv_iload_n hx hb dX12_leave_33 rfl (lv_at hl 2 rfl) ?_
      obtain ⟨q8, hq8, hf⟩ := bd hf
      refine g_Si (As := [.int sg.2.1]) (rest := []) ⟨hx, hb, hml, hown, hts⟩ (k_X12_bitsOf hq8) (va_cwS 1 hts gX12_leave_X12_bitsOf rfl rfl rfl (by decide +kernel) ⟨Nat.le_of_ble_eq_true rfl, Nat.le_of_ble_eq_true rfl⟩) STR_ok hst hK hw rfl rfl hl.1 rfl (Nat.le_of_ble_eq_true rfl) dX12_leave_34 ⟨Nat.zero_le _, Nat.zero_le _⟩ (fun H locs hw => ?_)
      refine lv_iload_n hx hb dX12_leave_37 rfl (lv_at hl 1 rfl) ?_
      obtain ⟨q9, hq9, hf⟩ := bd hf
      refine g_Si (As := [.int sg.1]) (rest := [.int q8]) ⟨hx, hb, hml, hown, hts⟩ (k_X12_bitsOf hq9) (va_cwS 1 hts gX12_leave_X12_bitsOf rfl rfl rfl (by decide +kernel) ⟨Nat.le_of_ble_eq_true rfl, Nat.le_of_ble_eq_true rfl⟩) STR_ok hst hK hw rfl rfl hl.1 rfl (Nat.le_of_ble_eq_true rfl) dX12_leave_38 ⟨Nat.zero_le _, Nat.zero_le _⟩ (fun H locs hw => ?_)
      refine lv_icmp_ge (tgt := 61) hx hb dX12_leave_41 (by decide) (fun c10 => ?_) (fun c10 => ?_)
      · have hf := it_p c10 hf
        refine lv_iinc (v := sg.2.1 + 1) (lv' := [(2, .int (sg.2.1 + 1)), (0, .ref (ad 0)), (1, .int sg.1)]) hx hb dX12_leave_61 hl (k := 2) rfl rfl (by decide) rfl (fun ls hl => ?_)
        refine lv_goto (tgt := 16) hx hb dX12_leave_64 (by decide) ?_
        exact hcont _ (so hf).symm _ _ _ hw (lv_sub hl [1, 2, 0] rfl)
      · have hf := it_n c10 hf
        refine lv_aload_n hx hb dX12_leave_44 rfl (lv_at hl 0 rfl) ?_
        refine lv_aload_n hx hb dX12_leave_45 rfl (lv_at hl 0 rfl) ?_
        refine g_get hx hb hts i_X12 hown hK hw 0 eR_c0 rfl 21 (by decide) L_38 (fun _ h => h) rfl dX12_leave_46 ?_
        refine lv_iload_n hx hb dX12_leave_49 rfl (lv_at hl 2 rfl) ?_
        refine lv_iconst (v := (-1)) hx hb dX12_leave_50 (by decide) ?_
        refine lv_ixor hx hb dX12_leave_51 ?_
        refine lv_iand hx hb dX12_leave_52 ?_
        obtain ⟨q11, hq11, hf⟩ := bd hf
        refine g_Vi (As := [.int (m_heard &&& (sg.2.1 ^^^ (-1)))]) (rest := []) ⟨hx, hb, hml, hown, hts⟩ (k_X12_isAgreed hq11) (cwV 1 hts gX12_leave_X12_isAgreed rfl rfl rfl (by decide +kernel) ⟨Nat.le_of_ble_eq_true rfl, Nat.le_of_ble_eq_true rfl⟩) STR_ok hst hK hw rfl eR_c0 rfl rfl hl.1 rfl (Nat.le_of_ble_eq_true rfl) dX12_leave_53 ⟨Nat.zero_le _, Nat.zero_le _⟩ (fun H locs hw => ?_)
        have hw : Wo D ad (Aw ad 19 s.heap.size) (eR ad y m_thrown m_taped m_size m_to m_from m_kind m_number m_fault m_place m_name m_happenings m_newHappenings m_heard m_outs q11.2.1 a_tape a_happened a_many a_sort a_one a_other a_low a_high a_begins a_out q11.2.2.1 q11.2.2.2.1 q11.2.2.2.2.1 a_left q11.2.2.2.2.2 a_quarrel a_early a_earlyLast) s.heap H locs := hw
        refine lv_if_eq (tgt := 61) hx hb dX12_leave_56 (by decide) (fun c12 => ?_) (fun c12 => ?_)
        · have hf := it_p c12 hf
          refine lv_iinc (v := sg.2.1 + 1) (lv' := [(2, .int (sg.2.1 + 1)), (0, .ref (ad 0)), (1, .int sg.1)]) hx hb dX12_leave_61 hl (k := 2) rfl rfl (by decide) rfl (fun ls hl => ?_)
          refine lv_goto (tgt := 16) hx hb dX12_leave_64 (by decide) ?_
          exact hcont _ (so hf).symm _ _ _ hw (lv_sub hl [1, 2, 0] rfl)
        · have hf := it_n c12 hf
          refine lv_iload_n hx hb dX12_leave_59 rfl (lv_at hl 2 rfl) ?_
          refine lv_istore_n (lv' := [(1, .int sg.2.1), (0, .ref (ad 0)), (2, .int sg.2.1)]) hx hb dX12_leave_60 rfl hl (by decide) rfl (fun ls hl => ?_)
          refine lv_iinc (v := sg.2.1 + 1) (lv' := [(2, .int (sg.2.1 + 1)), (1, .int sg.2.1), (0, .ref (ad 0))]) hx hb dX12_leave_61 hl (k := 2) rfl rfl (by decide) rfl (fun ls hl => ?_)
          refine lv_goto (tgt := 16) hx hb dX12_leave_64 (by decide) ?_
          exact hcont _ (so hf).symm _ _ _ hw (lv_sub hl [2, 1, 0] rfl)
set_option maxHeartbeats 4000000 in
theorem kl_X12_leave_16 {p : Program} {l : Launch} {e : Env} {s : State} {m : MethodId} {args : Array Value} {below : List Frame} {meth : Method} {c : Code} {D : va_G} {ad : Nat → Nat} {y : Nat → ClassId} (C0 : CXT wsX12_leave cX12_leave RX12 3 (some .int) D (tyL y) (STR ad) p s m args meth c) {m_thrown : Int32} {m_taped : Int32} {m_size : Int32} {m_to : Int32} {m_from : Int32} {m_kind : Int32} {m_number : Int32} {m_fault : Int32} {m_place : Int32} {m_name : Int64} {m_happenings : Int32} {m_newHappenings : Int32} {m_heard : Int32} {m_outs : Int32} {a_tape : Nat → Int32} {a_happened : Nat → Int64} {a_many : Nat → Int32} {a_sort : Nat → Int32} {a_one : Nat → Int32} {a_other : Nat → Int32} {a_low : Nat → Int32} {a_high : Nat → Int32} {a_begins : Nat → Int32} {a_out : Nat → Int32} {a_left : Nat → Int32} {a_quarrel : Nat → Int32} {a_early : Nat → Int32} {a_earlyLast : Nat → Int32}  {res : Int32 × Int32 × Int32 × (Nat → Int32) × (Nat → Int32) × (Nat → Int32) × (Nat → Int32) × (Nat → Int32)} : ∀ (n : Nat) (sg : Int32 × Int32 × Int32 × (Nat → Int32) × (Nat → Int32) × (Nat → Int32) × (Nat → Int32)) (q : Int32 × Int32 × Int32 × (Nat → Int32) × (Nat → Int32) × (Nat → Int32) × (Nat → Int32)), lp (f_X12_leave_l16 m_thrown m_happenings m_heard a_many a_sort a_one a_other a_low a_high a_left) n sg = some q → ∀ (H : Heap) (locs : List Loc) (ls : Array Slot), Wo D ad (Aw ad 19 s.heap.size) (eR ad y m_thrown m_taped m_size m_to m_from m_kind m_number m_fault m_place m_name m_happenings m_newHappenings m_heard m_outs sg.2.2.1 a_tape a_happened a_many a_sort a_one a_other a_low a_high a_begins a_out sg.2.2.2.1 sg.2.2.2.2.1 sg.2.2.2.2.2.1 a_left sg.2.2.2.2.2.2 a_quarrel a_early a_earlyLast) s.heap H locs → lv_has ls 3 [(0, .ref (ad 0)), (1, .int sg.1), (2, .int sg.2.1)] → (∀ (H : Heap) (locs : List Loc) (ls : Array Slot), Wo D ad (Aw ad 19 s.heap.size) (eR ad y m_thrown m_taped m_size m_to m_from m_kind m_number m_fault m_place m_name m_happenings m_newHappenings m_heard m_outs q.2.2.1 a_tape a_happened a_many a_sort a_one a_other a_low a_high a_begins a_out q.2.2.2.1 q.2.2.2.2.1 q.2.2.2.2.2.1 a_left q.2.2.2.2.2.2 a_quarrel a_early a_earlyLast) s.heap H locs → lv_has ls 3 [(0, .ref (ad 0)), (1, .int q.1), (2, .int q.2.1)] → W p l e rm_X12_leave s m args below meth c H locs 0 0 (QM_X12_leave below args s D ad y (m_taped) (m_size) (m_to) (m_from) (m_kind) (m_number) (m_fault) (m_place) (m_name) (m_happenings) (m_newHappenings) (m_heard) (m_outs) (a_tape) (a_happened) (a_many) (a_sort) (a_one) (a_other) (a_low) (a_high) (a_begins) (a_out) (a_quarrel) (a_early) (a_earlyLast) res) (F0 m 67 ls [])) → W p l e rm_X12_leave s m args below meth c H locs 0 0 (QM_X12_leave below args s D ad y (m_taped) (m_size) (m_to) (m_from) (m_kind) (m_number) (m_fault) (m_place) (m_name) (m_happenings) (m_newHappenings) (m_heard) (m_outs) (a_tape) (a_happened) (a_many) (a_sort) (a_one) (a_other) (a_low) (a_high) (a_begins) (a_out) (a_quarrel) (a_early) (a_earlyLast) res) (F0 m 16 ls []) := by
  intro n
  induction n with
  | zero => intro sg q hf; exact absurd hf lp_zero
  | succ n ih =>
    intro sg q hf H locs ls hw hl hexit
    rcases lp_succ hf with ⟨sg2, h1, h2⟩ | h1
    · exact kw_X12_leave_16 C0 h1 hw hl (fun s2 e2 H locs ls hw hl => by cases e2; exact ih _ q h2 H locs ls hw hl hexit) (fun t e2 => by cases e2)
    · exact kw_X12_leave_16 C0 h1 hw hl (fun s2 e2 => by cases e2) (fun t e2 => by cases e2; exact hexit)
set_option maxHeartbeats 4000000 in
set_option maxRecDepth 100000 in
theorem ke_X12_leave {p : Program} {l : Launch} {e : Env} {s : State} {m : MethodId} {args : Array Value} {below : List Frame} {meth : Method} {c : Code} {D : va_G} {ad : Nat → Nat} {y : Nat → ClassId} (C0 : CXT wsX12_leave cX12_leave RX12 3 (some .int) D (tyL y) (STR ad) p s m args meth c) {m_thrown : Int32} {m_taped : Int32} {m_size : Int32} {m_to : Int32} {m_from : Int32} {m_kind : Int32} {m_number : Int32} {m_fault : Int32} {m_place : Int32} {m_name : Int64} {m_happenings : Int32} {m_newHappenings : Int32} {m_heard : Int32} {m_outs : Int32} {m_bounds : Int32} {a_tape : Nat → Int32} {a_happened : Nat → Int64} {a_many : Nat → Int32} {a_sort : Nat → Int32} {a_one : Nat → Int32} {a_other : Nat → Int32} {a_low : Nat → Int32} {a_high : Nat → Int32} {a_begins : Nat → Int32} {a_out : Nat → Int32} {a_behind : Nat → Int32} {a_ahead : Nat → Int32} {a_most : Nat → Int32} {a_left : Nat → Int32} {a_far : Nat → Int32} {a_quarrel : Nat → Int32} {a_early : Nat → Int32} {a_earlyLast : Nat → Int32}  {res : Int32 × Int32 × Int32 × (Nat → Int32) × (Nat → Int32) × (Nat → Int32) × (Nat → Int32) × (Nat → Int32)} (hf : f_X12_leave m_thrown m_happenings m_heard m_bounds a_many a_sort a_one a_other a_low a_high a_behind a_ahead a_most a_left a_far = some res) {H : Heap} {locs : List Loc} {ls : Array Slot} (hw : Wo D ad (Aw ad 19 s.heap.size) (eR ad y m_thrown m_taped m_size m_to m_from m_kind m_number m_fault m_place m_name m_happenings m_newHappenings m_heard m_outs m_bounds a_tape a_happened a_many a_sort a_one a_other a_low a_high a_begins a_out a_behind a_ahead a_most a_left a_far a_quarrel a_early a_earlyLast) s.heap H locs) (hl : lv_has ls 3 [(0, .ref (ad 0))]) : W p l e rm_X12_leave s m args below meth c H locs 0 0 (QM_X12_leave below args s D ad y (m_taped) (m_size) (m_to) (m_from) (m_kind) (m_number) (m_fault) (m_place) (m_name) (m_happenings) (m_newHappenings) (m_heard) (m_outs) (a_tape) (a_happened) (a_many) (a_sort) (a_one) (a_other) (a_low) (a_high) (a_begins) (a_out) (a_quarrel) (a_early) (a_earlyLast) res) (F0 m 0 ls []) := by
  obtain ⟨hx, hb, hr, hml, hown, hts, hlocks, hK, hst⟩ := id C0
  have i_X12 : ∀ w ∈ u_ws RX12 TX12 33, w ∈ wsX12_leave := by decide +kernel
  have L_70 := hts (.fieldLink RX12 70 "CaseOrderModel" "thrown" "I") (by decide +kernel)
  have L_38 := hts (.fieldLink RX12 38 "CaseOrderModel" "heard" "I") (by decide +kernel)
  unfold f_X12_leave at hf
  refine lv_aload_n hx hb dX12_leave_0 rfl (lv_at hl 0 rfl) ?_
  refine lv_iconst (v := 0) hx hb dX12_leave_1 (by decide) ?_
  refine g_put (ty := .int) hx hb hts i_X12 tyX12 tyX12_ok nmX12 hown hK hw 0 eR_c0 rfl 0 (by decide) L_70 (fun _ h => h) rfl (by decide +kernel) rfl rfl (Nat.le_of_ble_eq_true rfl) dX12_leave_2 (fun H locs hw => ?_)
  have hw : Wo D ad (Aw ad 19 s.heap.size) (eR ad y 0 m_taped m_size m_to m_from m_kind m_number m_fault m_place m_name m_happenings m_newHappenings m_heard m_outs m_bounds a_tape a_happened a_many a_sort a_one a_other a_low a_high a_begins a_out a_behind a_ahead a_most a_left a_far a_quarrel a_early a_earlyLast) s.heap H locs := hw
  refine lv_aload_n hx hb dX12_leave_5 rfl (lv_at hl 0 rfl) ?_
  obtain ⟨q5, hq5, hf⟩ := bd hf
  refine g_Vv (As := []) (rest := []) ⟨hx, hb, hml, hown, hts⟩ (k_X12_hearAll hq5) (cwV 0 hts gX12_leave_X12_hearAll rfl rfl rfl (by decide +kernel) ⟨Nat.le_of_ble_eq_true rfl, Nat.le_of_ble_eq_true rfl⟩) STR_ok hst hK hw rfl eR_c0 rfl rfl hl.1 rfl (Nat.le_of_ble_eq_true rfl) dX12_leave_6 ⟨Nat.zero_le _, Nat.zero_le _⟩ (fun H locs hw => ?_)
  have hw : Wo D ad (Aw ad 19 s.heap.size) (eR ad y 0 m_taped m_size m_to m_from m_kind m_number m_fault m_place m_name m_happenings m_newHappenings m_heard m_outs m_bounds a_tape a_happened a_many a_sort a_one a_other a_low a_high a_begins a_out a_behind a_ahead a_most q5 a_far a_quarrel a_early a_earlyLast) s.heap H locs := hw
  refine lv_aload_n hx hb dX12_leave_9 rfl (lv_at hl 0 rfl) ?_
  refine g_get hx hb hts i_X12 hown hK hw 0 eR_c0 rfl 21 (by decide) L_38 (fun _ h => h) rfl dX12_leave_10 ?_
  refine lv_istore_n (lv' := [(1, .int m_heard), (0, .ref (ad 0))]) hx hb dX12_leave_13 rfl hl (by decide) rfl (fun ls hl => ?_)
  refine lv_iconst (v := 0) hx hb dX12_leave_14 (by decide) ?_
  refine lv_istore_n (lv' := [(2, .int 0), (1, .int m_heard), (0, .ref (ad 0))]) hx hb dX12_leave_15 rfl hl (by decide) rfl (fun ls hl => ?_)
  obtain ⟨q13, hq13, hf⟩ := bd hf
  refine kl_X12_leave_16 C0 gFU _ _ hq13 _ _ _ hw (lv_sub hl [2, 1, 0] rfl) (fun H locs ls hw hl => ?_)
  have hw : Wo D ad (Aw ad 19 s.heap.size) (eR ad y 0 m_taped m_size m_to m_from m_kind m_number m_fault m_place m_name m_happenings m_newHappenings m_heard m_outs q13.2.2.1 a_tape a_happened a_many a_sort a_one a_other a_low a_high a_begins a_out q13.2.2.2.1 q13.2.2.2.2.1 q13.2.2.2.2.2.1 q5 q13.2.2.2.2.2.2 a_quarrel a_early a_earlyLast) s.heap H locs := hw
  have hl : lv_has ls 3 [(0, .ref (ad 0)), (1, .int q13.1), (2, .int q13.2.1)] := hl
  refine lv_iload_n hx hb dX12_leave_67 rfl (lv_at hl 1 rfl) ?_
  obtain rfl := so hf
  exact W.iret (v := q13.1) hx hb hr (fun t ht _ => g_end hw t ht) hw.2.2.2.2 dX12_leave_68
set_option maxHeartbeats 4000000 in
theorem k_X12_leave {l : Launch} {D : va_G} {ad : Nat → Nat} {y : Nat → ClassId} {m_thrown : Int32} {m_taped : Int32} {m_size : Int32} {m_to : Int32} {m_from : Int32} {m_kind : Int32} {m_number : Int32} {m_fault : Int32} {m_place : Int32} {m_name : Int64} {m_happenings : Int32} {m_newHappenings : Int32} {m_heard : Int32} {m_outs : Int32} {m_bounds : Int32} {a_tape : Nat → Int32} {a_happened : Nat → Int64} {a_many : Nat → Int32} {a_sort : Nat → Int32} {a_one : Nat → Int32} {a_other : Nat → Int32} {a_low : Nat → Int32} {a_high : Nat → Int32} {a_begins : Nat → Int32} {a_out : Nat → Int32} {a_behind : Nat → Int32} {a_ahead : Nat → Int32} {a_most : Nat → Int32} {a_left : Nat → Int32} {a_far : Nat → Int32} {a_quarrel : Nat → Int32} {a_early : Nat → Int32} {a_earlyLast : Nat → Int32}  {res : Int32 × Int32 × Int32 × (Nat → Int32) × (Nat → Int32) × (Nat → Int32) × (Nat → Int32) × (Nat → Int32)} (hf : f_X12_leave m_thrown m_happenings m_heard m_bounds a_many a_sort a_one a_other a_low a_high a_behind a_ahead a_most a_left a_far = some res) : CTi l yX12_leave wsX12_leave rm_X12_leave D ad 19 (tyL y) (STR ad) (eR ad y m_thrown m_taped m_size m_to m_from m_kind m_number m_fault m_place m_name m_happenings m_newHappenings m_heard m_outs m_bounds a_tape a_happened a_many a_sort a_one a_other a_low a_high a_begins a_out a_behind a_ahead a_most a_left a_far a_quarrel a_early a_earlyLast) (eR ad y res.2.1 m_taped m_size m_to m_from m_kind m_number m_fault m_place m_name m_happenings m_newHappenings m_heard m_outs res.2.2.1 a_tape a_happened a_many a_sort a_one a_other a_low a_high a_begins a_out res.2.2.2.1 res.2.2.2.2.1 res.2.2.2.2.2.1 res.2.2.2.2.2.2.1 res.2.2.2.2.2.2.2 a_quarrel a_early a_earlyLast) [.ref (ad 0)] res.1 := by
  intro sz
  refine Met.ofW (cc := cX12_leave) (maxL := 3) (ret := (some .int)) (by decide) rfl ?_
  intro p e s m args below meth c s₁ B hml hv
  obtain ⟨rfl, hsz, hP, hK, hD0, hst⟩ := hv
  subst hsz
  have C0 : CXT wsX12_leave cX12_leave RX12 3 (some .int) D (tyL y) (STR ad) p s m ([.ref (ad 0)] : List Value).toArray meth c := ⟨B.exec, B.bytes, B.returns, hml, findClass_of_methodNamed B.named, atoms_spec (ws := wsX12_leave) B.pre, B.notSynchronized, hK, hst⟩
  have hw := g_start (n := 19) rfl hP hD0
  have hl := lv_entry ([.ref (ad 0)]) (n := 3) (Nat.le_of_ble_eq_true rfl)
  rw [lg_entry_eq]
  generalize (lg_sl ([.ref (ad 0)]) ++ List.replicate (3 - (lg_sl ([.ref (ad 0)])).length) Slot.unset).toArray = ls at hl ⊢
  have hl : lv_has ls 3 [(0, .ref (ad 0))] := hl
  exact ke_X12_leave C0 hf hw hl
abbrev rm_X12_needless : Room := { frames := 6, cells := 0, slots := 0, locals := 135 }
abbrev QM_X12_needless (below : List Frame) (args : Array Value) (s : State) (D : va_G) (ad : Nat → Nat) (y : Nat → ClassId) (m_taped : Int32) (m_size : Int32) (m_to : Int32) (m_from : Int32) (m_kind : Int32) (m_number : Int32) (m_fault : Int32) (m_place : Int32) (m_name : Int64) (m_happenings : Int32) (m_newHappenings : Int32) (m_heard : Int32) (m_outs : Int32) (a_tape : Nat → Int32) (a_happened : Nat → Int64) (a_many : Nat → Int32) (a_sort : Nat → Int32) (a_one : Nat → Int32) (a_other : Nat → Int32) (a_low : Nat → Int32) (a_high : Nat → Int32) (a_begins : Nat → Int32) (a_out : Nat → Int32) (a_quarrel : Nat → Int32) (a_early : Nat → Int32) (a_earlyLast : Nat → Int32) (res : Int32 × Int32 × Int32 × (Nat → Int32) × (Nat → Int32) × (Nat → Int32) × (Nat → Int32) × (Nat → Int32)) : State → Prop := MQ below (va_Qi (fun x (_ : Unit) => x = res.1) (fun _ t => va_P D vwCl (wls ad (eR ad y res.2.1 m_taped m_size m_to m_from m_kind m_number m_fault m_place m_name m_happenings m_newHappenings m_heard m_outs res.2.2.1 a_tape a_happened a_many a_sort a_one a_other a_low a_high a_begins a_out res.2.2.2.1 res.2.2.2.2.1 res.2.2.2.2.2.1 res.2.2.2.2.2.2.1 res.2.2.2.2.2.2.2 a_quarrel a_early a_earlyLast)) t.heap) (Aw ad 19 s.heap.size)) args s 0 0 (Aw ad 19 s.heap.size)
set_option maxHeartbeats 4000000 in
set_option maxRecDepth 100000 in
theorem kw_X12_needless_96 {p : Program} {l : Launch} {e : Env} {s : State} {m : MethodId} {args : Array Value} {below : List Frame} {meth : Method} {c : Code} {D : va_G} {ad : Nat → Nat} {y : Nat → ClassId} (C0 : CXT wsX12_needless cX12_needless RX12 6 (some .int) D (tyL y) (STR ad) p s m args meth c) {m_thrown : Int32} {m_taped : Int32} {m_size : Int32} {m_to : Int32} {m_from : Int32} {m_kind : Int32} {m_number : Int32} {m_fault : Int32} {m_place : Int32} {m_name : Int64} {m_happenings : Int32} {m_newHappenings : Int32} {m_heard : Int32} {m_outs : Int32} {m_bounds : Int32} {a_tape : Nat → Int32} {a_happened : Nat → Int64} {a_many : Nat → Int32} {a_sort : Nat → Int32} {a_one : Nat → Int32} {a_other : Nat → Int32} {a_low : Nat → Int32} {a_high : Nat → Int32} {a_begins : Nat → Int32} {a_out : Nat → Int32} {a_behind : Nat → Int32} {a_ahead : Nat → Int32} {a_most : Nat → Int32} {a_left : Nat → Int32} {a_quarrel : Nat → Int32} {a_early : Nat → Int32} {a_earlyLast : Nat → Int32} {u4 : Int32} {res : Int32 × Int32 × Int32 × (Nat → Int32) × (Nat → Int32) × (Nat → Int32) × (Nat → Int32) × (Nat → Int32)} {sg : Int32 × (Nat → Int32)} {o : (Int32 × (Nat → Int32)) ⊕ ((Int32 × (Nat → Int32)) ⊕ (Int32 × Int32 × Int32 × (Nat → Int32) × (Nat → Int32) × (Nat → Int32) × (Nat → Int32) × (Nat → Int32)))} (hf : f_X12_needless_l96 m_thrown m_happenings m_heard m_bounds a_many a_sort a_one a_other a_low a_high a_behind a_ahead a_most a_left u4 sg = some o) {H : Heap} {locs : List Loc} {ls : Array Slot} (hw : Wo D ad (Aw ad 19 s.heap.size) (eR ad y m_thrown m_taped m_size m_to m_from m_kind m_number m_fault m_place m_name m_happenings m_newHappenings m_heard m_outs m_bounds a_tape a_happened a_many a_sort a_one a_other a_low a_high a_begins a_out a_behind a_ahead a_most a_left sg.2 a_quarrel a_early a_earlyLast) s.heap H locs) (hl : lv_has ls 6 [(0, .ref (ad 0)), (4, .int u4), (5, .int sg.1)]) (hcont : ∀ s2, o = .inl s2 → ∀ (H : Heap) (locs : List Loc) (ls : Array Slot), Wo D ad (Aw ad 19 s.heap.size) (eR ad y m_thrown m_taped m_size m_to m_from m_kind m_number m_fault m_place m_name m_happenings m_newHappenings m_heard m_outs m_bounds a_tape a_happened a_many a_sort a_one a_other a_low a_high a_begins a_out a_behind a_ahead a_most a_left s2.2 a_quarrel a_early a_earlyLast) s.heap H locs → lv_has ls 6 [(0, .ref (ad 0)), (4, .int u4), (5, .int s2.1)] → W p l e rm_X12_needless s m args below meth c H locs 0 0 (QM_X12_needless below args s D ad y (m_taped) (m_size) (m_to) (m_from) (m_kind) (m_number) (m_fault) (m_place) (m_name) (m_happenings) (m_newHappenings) (m_heard) (m_outs) (a_tape) (a_happened) (a_many) (a_sort) (a_one) (a_other) (a_low) (a_high) (a_begins) (a_out) (a_quarrel) (a_early) (a_earlyLast) res) (F0 m 96 ls [])) (hexit : ∀ t, o = .inr (.inl t) → ∀ (H : Heap) (locs : List Loc) (ls : Array Slot), Wo D ad (Aw ad 19 s.heap.size) (eR ad y m_thrown m_taped m_size m_to m_from m_kind m_number m_fault m_place m_name m_happenings m_newHappenings m_heard m_outs m_bounds a_tape a_happened a_many a_sort a_one a_other a_low a_high a_begins a_out a_behind a_ahead a_most a_left t.2 a_quarrel a_early a_earlyLast) s.heap H locs → lv_has ls 6 [(0, .ref (ad 0)), (4, .int u4), (5, .int t.1)] → W p l e rm_X12_needless s m args below meth c H locs 0 0 (QM_X12_needless below args s D ad y (m_taped) (m_size) (m_to) (m_from) (m_kind) (m_number) (m_fault) (m_place) (m_name) (m_happenings) (m_newHappenings) (m_heard) (m_outs) (a_tape) (a_happened) (a_many) (a_sort) (a_one) (a_other) (a_low) (a_high) (a_begins) (a_out) (a_quarrel) (a_early) (a_earlyLast) res) (F0 m 139 ls [])) (hret : ∀ r, o = .inr (.inr r) → r = res) : W p l e rm_X12_needless s m args below meth c H locs 0 0 (QM_X12_needless below args s D ad y (m_taped) (m_size) (m_to) (m_from) (m_kind) (m_number) (m_fault) (m_place) (m_name) (m_happenings) (m_newHappenings) (m_heard) (m_outs) (a_tape) (a_happened) (a_many) (a_sort) (a_one) (a_other) (a_low) (a_high) (a_begins) (a_out) (a_quarrel) (a_early) (a_earlyLast) res) (F0 m 96 ls []) := by
  obtain ⟨hx, hb, hr, hml, hown, hts, hlocks, hK, hst⟩ := id C0
  have i_X12 : ∀ w ∈ u_ws RX12 TX12 33, w ∈ wsX12_needless := by decide +kernel
  have L_48 := hts (.fieldLink RX12 48 "CaseOrderModel" "ahead" "[I") (by decide +kernel)
  have L_45 := hts (.fieldLink RX12 45 "CaseOrderModel" "behind" "[I") (by decide +kernel)
  have L_51 := hts (.fieldLink RX12 51 "CaseOrderModel" "most" "[I") (by decide +kernel)
  unfold f_X12_needless_l96 at hf
  refine lv_iload hx hb dX12_needless_96 (lv_at hl 2 rfl) ?_
  refine lv_iload hx hb dX12_needless_98 (lv_at hl 1 rfl) ?_
  refine lv_icmp_ge (tgt := 139) hx hb dX12_needless_100 (by decide) (fun c22 => ?_) (fun c22 => ?_)
  · have hf := it_p c22 hf
    exact hexit _ (so hf).symm _ _ _ hw (lv_sub hl [0, 1, 2] rfl)
  · have hf := it_n c22 hf
    refine lv_aload_n hx hb dX12_needless_103 rfl (lv_at hl 0 rfl) ?_
    refine lv_aload_n hx hb dX12_needless_104 rfl (lv_at hl 0 rfl) ?_
    refine g_get hx hb hts i_X12 hown hK hw 0 eR_c0 rfl 25 (by decide) L_48 (fun _ h => h) rfl dX12_needless_105 ?_
    refine lv_iload hx hb dX12_needless_108 (lv_at hl 2 rfl) ?_
    obtain ⟨g23, hf⟩ := gIn_some hf
    refine g_iald hx hb hK hw 12 1 eR_c12 rfl g23 dX12_needless_110 ?_
    refine lv_aload_n hx hb dX12_needless_111 rfl (lv_at hl 0 rfl) ?_
    refine g_get hx hb hts i_X12 hown hK hw 0 eR_c0 rfl 24 (by decide) L_45 (fun _ h => h) rfl dX12_needless_112 ?_
    refine lv_iload hx hb dX12_needless_115 (lv_at hl 2 rfl) ?_
    obtain ⟨g24, hf⟩ := gIn_some hf
    refine g_iald hx hb hK hw 11 1 eR_c11 rfl g24 dX12_needless_117 ?_
    obtain ⟨q25, hq25, hf⟩ := bd hf
    refine g_Vi (As := [.int (a_ahead (Int32.toNatClampNeg sg.1)), .int (a_behind (Int32.toNatClampNeg sg.1))]) (rest := []) ⟨hx, hb, hml, hown, hts⟩ (k_X12_mostOf hq25) (cwV 2 hts gX12_needless_X12_mostOf rfl rfl rfl (by decide +kernel) ⟨Nat.le_of_ble_eq_true rfl, Nat.le_of_ble_eq_true rfl⟩) STR_ok hst hK hw rfl eR_c0 rfl rfl hl.1 rfl (Nat.le_of_ble_eq_true rfl) dX12_needless_118 ⟨Nat.zero_le _, Nat.zero_le _⟩ (fun H locs hw => ?_)
    have hw : Wo D ad (Aw ad 19 s.heap.size) (eR ad y m_thrown m_taped m_size m_to m_from m_kind m_number m_fault m_place m_name m_happenings m_newHappenings m_heard m_outs m_bounds a_tape a_happened a_many a_sort a_one a_other a_low a_high a_begins a_out a_behind a_ahead a_most a_left q25.2 a_quarrel a_early a_earlyLast) s.heap H locs := hw
    refine lv_aload_n hx hb dX12_needless_121 rfl (lv_at hl 0 rfl) ?_
    refine g_get hx hb hts i_X12 hown hK hw 0 eR_c0 rfl 26 (by decide) L_51 (fun _ h => h) rfl dX12_needless_122 ?_
    refine lv_iload hx hb dX12_needless_125 (lv_at hl 2 rfl) ?_
    obtain ⟨g26, hf⟩ := gIn_some hf
    refine g_iald hx hb hK hw 13 1 eR_c13 rfl g26 dX12_needless_127 ?_
    refine lv_icmp_le (tgt := 133) hx hb dX12_needless_128 (by decide) (fun c27 => ?_) (fun c27 => ?_)
    · have hf := it_p c27 hf
      refine lv_iinc (v := sg.1 + 1) (lv' := [(5, .int (sg.1 + 1)), (0, .ref (ad 0)), (4, .int u4)]) hx hb dX12_needless_133 hl (k := 2) rfl rfl (by decide) rfl (fun ls hl => ?_)
      refine lv_goto (tgt := 96) hx hb dX12_needless_136 (by decide) ?_
      exact hcont _ (so hf).symm _ _ _ hw (lv_sub hl [1, 2, 0] rfl)
    · have hf := it_n c27 hf
      refine lv_iconst (v := 0) hx hb dX12_needless_131 (by decide) ?_
      obtain rfl := hret _ (so hf).symm
      exact W.iret (v := 0) hx hb hr (fun t ht _ => g_end hw t ht) hw.2.2.2.2 dX12_needless_132
set_option maxHeartbeats 4000000 in
theorem kl_X12_needless_96 {p : Program} {l : Launch} {e : Env} {s : State} {m : MethodId} {args : Array Value} {below : List Frame} {meth : Method} {c : Code} {D : va_G} {ad : Nat → Nat} {y : Nat → ClassId} (C0 : CXT wsX12_needless cX12_needless RX12 6 (some .int) D (tyL y) (STR ad) p s m args meth c) {m_thrown : Int32} {m_taped : Int32} {m_size : Int32} {m_to : Int32} {m_from : Int32} {m_kind : Int32} {m_number : Int32} {m_fault : Int32} {m_place : Int32} {m_name : Int64} {m_happenings : Int32} {m_newHappenings : Int32} {m_heard : Int32} {m_outs : Int32} {m_bounds : Int32} {a_tape : Nat → Int32} {a_happened : Nat → Int64} {a_many : Nat → Int32} {a_sort : Nat → Int32} {a_one : Nat → Int32} {a_other : Nat → Int32} {a_low : Nat → Int32} {a_high : Nat → Int32} {a_begins : Nat → Int32} {a_out : Nat → Int32} {a_behind : Nat → Int32} {a_ahead : Nat → Int32} {a_most : Nat → Int32} {a_left : Nat → Int32} {a_quarrel : Nat → Int32} {a_early : Nat → Int32} {a_earlyLast : Nat → Int32} {u4 : Int32} {res : Int32 × Int32 × Int32 × (Nat → Int32) × (Nat → Int32) × (Nat → Int32) × (Nat → Int32) × (Nat → Int32)} : ∀ (n : Nat) (sg : Int32 × (Nat → Int32)) (q : (Int32 × (Nat → Int32)) ⊕ (Int32 × Int32 × Int32 × (Nat → Int32) × (Nat → Int32) × (Nat → Int32) × (Nat → Int32) × (Nat → Int32))), lp (f_X12_needless_l96 m_thrown m_happenings m_heard m_bounds a_many a_sort a_one a_other a_low a_high a_behind a_ahead a_most a_left u4) n sg = some q → ∀ (H : Heap) (locs : List Loc) (ls : Array Slot), Wo D ad (Aw ad 19 s.heap.size) (eR ad y m_thrown m_taped m_size m_to m_from m_kind m_number m_fault m_place m_name m_happenings m_newHappenings m_heard m_outs m_bounds a_tape a_happened a_many a_sort a_one a_other a_low a_high a_begins a_out a_behind a_ahead a_most a_left sg.2 a_quarrel a_early a_earlyLast) s.heap H locs → lv_has ls 6 [(0, .ref (ad 0)), (4, .int u4), (5, .int sg.1)] → (∀ t, q = .inl t → ∀ (H : Heap) (locs : List Loc) (ls : Array Slot), Wo D ad (Aw ad 19 s.heap.size) (eR ad y m_thrown m_taped m_size m_to m_from m_kind m_number m_fault m_place m_name m_happenings m_newHappenings m_heard m_outs m_bounds a_tape a_happened a_many a_sort a_one a_other a_low a_high a_begins a_out a_behind a_ahead a_most a_left t.2 a_quarrel a_early a_earlyLast) s.heap H locs → lv_has ls 6 [(0, .ref (ad 0)), (4, .int u4), (5, .int t.1)] → W p l e rm_X12_needless s m args below meth c H locs 0 0 (QM_X12_needless below args s D ad y (m_taped) (m_size) (m_to) (m_from) (m_kind) (m_number) (m_fault) (m_place) (m_name) (m_happenings) (m_newHappenings) (m_heard) (m_outs) (a_tape) (a_happened) (a_many) (a_sort) (a_one) (a_other) (a_low) (a_high) (a_begins) (a_out) (a_quarrel) (a_early) (a_earlyLast) res) (F0 m 139 ls [])) → (∀ r, q = .inr r → r = res) → W p l e rm_X12_needless s m args below meth c H locs 0 0 (QM_X12_needless below args s D ad y (m_taped) (m_size) (m_to) (m_from) (m_kind) (m_number) (m_fault) (m_place) (m_name) (m_happenings) (m_newHappenings) (m_heard) (m_outs) (a_tape) (a_happened) (a_many) (a_sort) (a_one) (a_other) (a_low) (a_high) (a_begins) (a_out) (a_quarrel) (a_early) (a_earlyLast) res) (F0 m 96 ls []) := by
  intro n
  induction n with
  | zero => intro sg q hf; exact absurd hf lp_zero
  | succ n ih =>
    intro sg q hf H locs ls hw hl hexit hret
    rcases lp_succ hf with ⟨sg2, h1, h2⟩ | h1
    · exact kw_X12_needless_96 C0 h1 hw hl (fun s2 e2 H locs ls hw hl => by cases e2; exact ih _ q h2 H locs ls hw hl hexit hret) (fun t e2 => by cases e2) (fun r e2 => by cases e2)
    · exact kw_X12_needless_96 C0 h1 hw hl (fun s2 e2 => by cases e2) (fun t e2 => by cases e2; exact hexit t rfl) (fun r e2 => by cases e2; exact hret r rfl)
set_option maxHeartbeats 4000000 in
set_option maxRecDepth 100000 in
theorem ke_X12_needless {p : Program} {l : Launch} {e : Env} {s : State} {m : MethodId} {args : Array Value} {below : List Frame} {meth : Method} {c : Code} {D : va_G} {ad : Nat → Nat} {y : Nat → ClassId} (C0 : CXT wsX12_needless cX12_needless RX12 6 (some .int) D (tyL y) (STR ad) p s m args meth c) {m_thrown : Int32} {m_taped : Int32} {m_size : Int32} {m_to : Int32} {m_from : Int32} {m_kind : Int32} {m_number : Int32} {m_fault : Int32} {m_place : Int32} {m_name : Int64} {m_happenings : Int32} {m_newHappenings : Int32} {m_heard : Int32} {m_outs : Int32} {m_bounds : Int32} {a_tape : Nat → Int32} {a_happened : Nat → Int64} {a_many : Nat → Int32} {a_sort : Nat → Int32} {a_one : Nat → Int32} {a_other : Nat → Int32} {a_low : Nat → Int32} {a_high : Nat → Int32} {a_begins : Nat → Int32} {a_out : Nat → Int32} {a_behind : Nat → Int32} {a_ahead : Nat → Int32} {a_most : Nat → Int32} {a_left : Nat → Int32} {a_far : Nat → Int32} {a_quarrel : Nat → Int32} {a_early : Nat → Int32} {a_earlyLast : Nat → Int32} {p1 : Int32} {p2 : Int32} {res : Int32 × Int32 × Int32 × (Nat → Int32) × (Nat → Int32) × (Nat → Int32) × (Nat → Int32) × (Nat → Int32)} (hf : f_X12_needless m_thrown m_happenings m_heard m_bounds a_many a_sort a_one a_other a_low a_high a_behind a_ahead a_most a_left a_far p1 p2 = some res) {H : Heap} {locs : List Loc} {ls : Array Slot} (hw : Wo D ad (Aw ad 19 s.heap.size) (eR ad y m_thrown m_taped m_size m_to m_from m_kind m_number m_fault m_place m_name m_happenings m_newHappenings m_heard m_outs m_bounds a_tape a_happened a_many a_sort a_one a_other a_low a_high a_begins a_out a_behind a_ahead a_most a_left a_far a_quarrel a_early a_earlyLast) s.heap H locs) (hl : lv_has ls 6 [(0, .ref (ad 0)), (1, .int p1), (2, .int p2)]) : W p l e rm_X12_needless s m args below meth c H locs 0 0 (QM_X12_needless below args s D ad y (m_taped) (m_size) (m_to) (m_from) (m_kind) (m_number) (m_fault) (m_place) (m_name) (m_happenings) (m_newHappenings) (m_heard) (m_outs) (a_tape) (a_happened) (a_many) (a_sort) (a_one) (a_other) (a_low) (a_high) (a_begins) (a_out) (a_quarrel) (a_early) (a_earlyLast) res) (F0 m 0 ls []) := by
  obtain ⟨hx, hb, hr, hml, hown, hts, hlocks, hK, hst⟩ := id C0
  have i_X12 : ∀ w ∈ u_ws RX12 TX12 33, w ∈ wsX12_needless := by decide +kernel
  have L_70 := hts (.fieldLink RX12 70 "CaseOrderModel" "thrown" "I") (by decide +kernel)
  have L_38 := hts (.fieldLink RX12 38 "CaseOrderModel" "heard" "I") (by decide +kernel)
  have L_54 := hts (.fieldLink RX12 54 "CaseOrderModel" "left" "[Z") (by decide +kernel)
  have L_203 := hts (.fieldLink RX12 203 "CaseOrderModel" "bounds" "I") (by decide +kernel)
  unfold f_X12_needless at hf
  refine lv_iload_n hx hb dX12_needless_0 rfl (lv_at hl 1 rfl) ?_
  obtain ⟨q12, hq12, hf⟩ := bd hf
  refine g_Si (As := [.int p1]) (rest := []) ⟨hx, hb, hml, hown, hts⟩ (k_X12_isTeller hq12) (va_cwS 1 hts gX12_needless_X12_isTeller rfl rfl rfl (by decide +kernel) ⟨Nat.le_of_ble_eq_true rfl, Nat.le_of_ble_eq_true rfl⟩) STR_ok hst hK hw rfl rfl hl.1 rfl (Nat.le_of_ble_eq_true rfl) dX12_needless_1 ⟨Nat.zero_le _, Nat.zero_le _⟩ (fun H locs hw => ?_)
  refine lv_if_ne (tgt := 13) hx hb dX12_needless_4 (by decide) (fun c13 => ?_) (fun c13 => ?_)
  · have hf := it_n c13 hf
    refine lv_aload_n hx hb dX12_needless_13 rfl (lv_at hl 0 rfl) ?_
    refine lv_iconst (v := 0) hx hb dX12_needless_14 (by decide) ?_
    refine g_put (ty := .int) hx hb hts i_X12 tyX12 tyX12_ok nmX12 hown hK hw 0 eR_c0 rfl 0 (by decide) L_70 (fun _ h => h) rfl (by decide +kernel) rfl rfl (Nat.le_of_ble_eq_true rfl) dX12_needless_15 (fun H locs hw => ?_)
    have hw : Wo D ad (Aw ad 19 s.heap.size) (eR ad y 0 m_taped m_size m_to m_from m_kind m_number m_fault m_place m_name m_happenings m_newHappenings m_heard m_outs m_bounds a_tape a_happened a_many a_sort a_one a_other a_low a_high a_begins a_out a_behind a_ahead a_most a_left a_far a_quarrel a_early a_earlyLast) s.heap H locs := hw
    refine lv_aload_n hx hb dX12_needless_18 rfl (lv_at hl 0 rfl) ?_
    refine lv_iload_n hx hb dX12_needless_19 rfl (lv_at hl 1 rfl) ?_
    refine lv_iload_n hx hb dX12_needless_20 rfl (lv_at hl 2 rfl) ?_
    obtain ⟨q14, hq14, hf⟩ := bd hf
    refine g_Vi (As := [.int p1, .int p2]) (rest := []) ⟨hx, hb, hml, hown, hts⟩ (k_X12_isSaying hq14) (cwV 2 hts gX12_needless_X12_isSaying rfl rfl rfl (by decide +kernel) ⟨Nat.le_of_ble_eq_true rfl, Nat.le_of_ble_eq_true rfl⟩) STR_ok hst hK hw rfl eR_c0 rfl rfl hl.1 rfl (Nat.le_of_ble_eq_true rfl) dX12_needless_21 ⟨Nat.zero_le _, Nat.zero_le _⟩ (fun H locs hw => ?_)
    refine lv_if_eq (tgt := 45) hx hb dX12_needless_24 (by decide) (fun c15 => ?_) (fun c15 => ?_)
    · have hf := it_p c15 hf
      refine lv_iconst (v := (-1)) hx hb dX12_needless_45 (by decide) ?_
      obtain rfl := so hf
      exact W.iret (v := (-1)) hx hb hr (fun t ht _ => g_end hw t ht) hw.2.2.2.2 dX12_needless_46
    · have hf := it_n c15 hf
      refine lv_aload_n hx hb dX12_needless_27 rfl (lv_at hl 0 rfl) ?_
      refine g_get hx hb hts i_X12 hown hK hw 0 eR_c0 rfl 21 (by decide) L_38 (fun _ h => h) rfl dX12_needless_28 ?_
      refine lv_iload_n hx hb dX12_needless_31 rfl (lv_at hl 1 rfl) ?_
      refine lv_ishr hx hb dX12_needless_32 ?_
      refine lv_iconst (v := 1) hx hb dX12_needless_33 (by decide) ?_
      refine lv_iand hx hb dX12_needless_34 ?_
      refine lv_if_eq (tgt := 45) hx hb dX12_needless_35 (by decide) (fun c16 => ?_) (fun c16 => ?_)
      · have hf := it_p c16 hf
        refine lv_iconst (v := (-1)) hx hb dX12_needless_45 (by decide) ?_
        obtain rfl := so hf
        exact W.iret (v := (-1)) hx hb hr (fun t ht _ => g_end hw t ht) hw.2.2.2.2 dX12_needless_46
      · have hf := it_n c16 hf
        refine lv_aload_n hx hb dX12_needless_38 rfl (lv_at hl 0 rfl) ?_
        obtain ⟨q17, hq17, hf⟩ := bd hf
        refine g_Vi (As := []) (rest := []) ⟨hx, hb, hml, hown, hts⟩ (k_X12_agree hq17) (cwV 0 hts gX12_needless_X12_agree rfl rfl rfl (by decide +kernel) ⟨Nat.le_of_ble_eq_true rfl, Nat.le_of_ble_eq_true rfl⟩) STR_ok hst hK hw rfl eR_c0 rfl rfl hl.1 rfl (Nat.le_of_ble_eq_true rfl) dX12_needless_39 ⟨Nat.zero_le _, Nat.zero_le _⟩ (fun H locs hw => ?_)
        have hw : Wo D ad (Aw ad 19 s.heap.size) (eR ad y q17.2.1 m_taped m_size m_to m_from m_kind m_number m_fault m_place m_name m_happenings m_newHappenings m_heard m_outs q17.2.2.1 a_tape a_happened a_many a_sort a_one a_other a_low a_high a_begins a_out q17.2.2.2.1 q17.2.2.2.2.1 q17.2.2.2.2.2.1 q17.2.2.2.2.2.2.1 q17.2.2.2.2.2.2.2 a_quarrel a_early a_earlyLast) s.heap H locs := hw
        refine lv_if_ne (tgt := 47) hx hb dX12_needless_42 (by decide) (fun c18 => ?_) (fun c18 => ?_)
        · have hf := it_n c18 hf
          refine lv_aload_n hx hb dX12_needless_47 rfl (lv_at hl 0 rfl) ?_
          refine g_get hx hb hts i_X12 hown hK hw 0 eR_c0 rfl 28 (by decide) L_54 (fun _ h => h) rfl dX12_needless_48 ?_
          refine lv_bipush (v := 12) hx hb dX12_needless_51 (by decide) ?_
          refine lv_iload_n hx hb dX12_needless_53 rfl (lv_at hl 1 rfl) ?_
          refine lv_imul hx hb dX12_needless_54 ?_
          refine lv_iload_n hx hb dX12_needless_55 rfl (lv_at hl 2 rfl) ?_
          refine lv_iadd hx hb dX12_needless_56 ?_
          refine lv_iconst (v := 1) hx hb dX12_needless_57 (by decide) ?_
          obtain ⟨g19, hf⟩ := gIn_some hf
          refine g_zast hx hb hK hw 14 2 eR_c14 rfl g19 dX12_needless_58 (fun H locs hw => ?_)
          have hw : Wo D ad (Aw ad 19 s.heap.size) (eR ad y q17.2.1 m_taped m_size m_to m_from m_kind m_number m_fault m_place m_name m_happenings m_newHappenings m_heard m_outs q17.2.2.1 a_tape a_happened a_many a_sort a_one a_other a_low a_high a_begins a_out q17.2.2.2.1 q17.2.2.2.2.1 q17.2.2.2.2.2.1 (upd q17.2.2.2.2.2.2.1 (Int32.toNatClampNeg ((12 * p1) + p2)) (vp_nar .boolean 1)) q17.2.2.2.2.2.2.2 a_quarrel a_early a_earlyLast) s.heap H locs := hw
          refine lv_aload_n hx hb dX12_needless_59 rfl (lv_at hl 0 rfl) ?_
          refine lv_aload_n hx hb dX12_needless_60 rfl (lv_at hl 0 rfl) ?_
          refine g_get hx hb hts i_X12 hown hK hw 0 eR_c0 rfl 21 (by decide) L_38 (fun _ h => h) rfl dX12_needless_61 ?_
          obtain ⟨q20, hq20, hf⟩ := bd hf
          refine g_Vv (As := [.int m_heard]) (rest := []) ⟨hx, hb, hml, hown, hts⟩ (k_X12_gather hq20) (cwV 1 hts gX12_needless_X12_gather rfl rfl rfl (by decide +kernel) ⟨Nat.le_of_ble_eq_true rfl, Nat.le_of_ble_eq_true rfl⟩) STR_ok hst hK hw rfl eR_c0 rfl rfl hl.1 rfl (Nat.le_of_ble_eq_true rfl) dX12_needless_64 ⟨Nat.zero_le _, Nat.zero_le _⟩ (fun H locs hw => ?_)
          have hw : Wo D ad (Aw ad 19 s.heap.size) (eR ad y q17.2.1 m_taped m_size m_to m_from m_kind m_number m_fault m_place m_name m_happenings m_newHappenings m_heard m_outs q20.1 a_tape a_happened a_many a_sort a_one a_other a_low a_high a_begins a_out q20.2.1 q20.2.2.1 q20.2.2.2 (upd q17.2.2.2.2.2.2.1 (Int32.toNatClampNeg ((12 * p1) + p2)) (vp_nar .boolean 1)) q17.2.2.2.2.2.2.2 a_quarrel a_early a_earlyLast) s.heap H locs := hw
          refine lv_aload_n hx hb dX12_needless_67 rfl (lv_at hl 0 rfl) ?_
          refine g_get hx hb hts i_X12 hown hK hw 0 eR_c0 rfl 27 (by decide) L_203 (fun _ h => h) rfl dX12_needless_68 ?_
          refine lv_istore_n (lv' := [(3, .int q20.1), (0, .ref (ad 0)), (1, .int p1), (2, .int p2)]) hx hb dX12_needless_71 rfl hl (by decide) rfl (fun ls hl => ?_)
          refine lv_aload_n hx hb dX12_needless_72 rfl (lv_at hl 1 rfl) ?_
          refine lv_bipush (v := 12) hx hb dX12_needless_73 (by decide) ?_
          refine lv_iload_n hx hb dX12_needless_75 rfl (lv_at hl 2 rfl) ?_
          refine lv_imul hx hb dX12_needless_76 ?_
          refine lv_iload_n hx hb dX12_needless_77 rfl (lv_at hl 3 rfl) ?_
          refine lv_iadd hx hb dX12_needless_78 ?_
          obtain ⟨q21, hq21, hf⟩ := bd hf
          refine g_Vv (As := [.int ((12 * p1) + p2)]) (rest := []) ⟨hx, hb, hml, hown, hts⟩ (k_X12_say hq21) (cwV 1 hts gX12_needless_X12_say rfl rfl rfl (by decide +kernel) ⟨Nat.le_of_ble_eq_true rfl, Nat.le_of_ble_eq_true rfl⟩) STR_ok hst hK hw rfl eR_c0 rfl rfl hl.1 rfl (Nat.le_of_ble_eq_true rfl) dX12_needless_79 ⟨Nat.zero_le _, Nat.zero_le _⟩ (fun H locs hw => ?_)
          have hw : Wo D ad (Aw ad 19 s.heap.size) (eR ad y q17.2.1 m_taped m_size m_to m_from m_kind m_number m_fault m_place m_name m_happenings m_newHappenings m_heard m_outs q21.1 a_tape a_happened a_many a_sort a_one a_other a_low a_high a_begins a_out q21.2.1 q21.2.2.1 q21.2.2.2 (upd q17.2.2.2.2.2.2.1 (Int32.toNatClampNeg ((12 * p1) + p2)) (vp_nar .boolean 1)) q17.2.2.2.2.2.2.2 a_quarrel a_early a_earlyLast) s.heap H locs := hw
          refine lv_aload_n hx hb dX12_needless_82 rfl (lv_at hl 1 rfl) ?_
          refine g_get hx hb hts i_X12 hown hK hw 0 eR_c0 rfl 27 (by decide) L_203 (fun _ h => h) rfl dX12_needless_83 ?_
          refine lv_istore (lv' := [(4, .int q21.1), (3, .int q20.1), (0, .ref (ad 0)), (1, .int p1), (2, .int p2)]) hx hb dX12_needless_86 hl (by decide) rfl (fun ls hl => ?_)
          refine lv_aload_n hx hb dX12_needless_88 rfl (lv_at hl 2 rfl) ?_
          refine lv_iload_n hx hb dX12_needless_89 rfl (lv_at hl 1 rfl) ?_
          refine g_put (ty := .int) hx hb hts i_X12 tyX12 tyX12_ok nmX12 hown hK hw 0 eR_c0 rfl 27 (by decide) L_203 (fun _ h => h) rfl (by decide +kernel) rfl rfl (Nat.le_of_ble_eq_true rfl) dX12_needless_90 (fun H locs hw => ?_)
          have hw : Wo D ad (Aw ad 19 s.heap.size) (eR ad y q17.2.1 m_taped m_size m_to m_from m_kind m_number m_fault m_place m_name m_happenings m_newHappenings m_heard m_outs q20.1 a_tape a_happened a_many a_sort a_one a_other a_low a_high a_begins a_out q21.2.1 q21.2.2.1 q21.2.2.2 (upd q17.2.2.2.2.2.2.1 (Int32.toNatClampNeg ((12 * p1) + p2)) (vp_nar .boolean 1)) q17.2.2.2.2.2.2.2 a_quarrel a_early a_earlyLast) s.heap H locs := hw
          refine lv_iload_n hx hb dX12_needless_93 rfl (lv_at hl 1 rfl) ?_
          refine lv_istore (lv' := [(5, .int q20.1), (4, .int q21.1), (3, .int q20.1), (0, .ref (ad 0)), (1, .int p1), (2, .int p2)]) hx hb dX12_needless_94 hl (by decide) rfl (fun ls hl => ?_)
          obtain ⟨q28, hq28, hf⟩ := bd hf
          refine kl_X12_needless_96 C0 gFU _ _ hq28 _ _ _ hw (lv_sub hl [3, 1, 0] rfl) (fun t29 et29 H locs ls hw hl => ?_) (fun r30 er30 => ?_)
          · rw [et29] at hf
            have hf := el_l hf
            have hw : Wo D ad (Aw ad 19 s.heap.size) (eR ad y q17.2.1 m_taped m_size m_to m_from m_kind m_number m_fault m_place m_name m_happenings m_newHappenings m_heard m_outs q20.1 a_tape a_happened a_many a_sort a_one a_other a_low a_high a_begins a_out q21.2.1 q21.2.2.1 q21.2.2.2 (upd q17.2.2.2.2.2.2.1 (Int32.toNatClampNeg ((12 * p1) + p2)) (vp_nar .boolean 1)) t29.2 a_quarrel a_early a_earlyLast) s.heap H locs := hw
            have hl : lv_has ls 6 [(0, .ref (ad 0)), (4, .int q21.1), (5, .int t29.1)] := hl
            refine lv_iconst (v := 1) hx hb dX12_needless_139 (by decide) ?_
            obtain rfl := so hf
            exact W.iret (v := 1) hx hb hr (fun t ht _ => g_end hw t ht) hw.2.2.2.2 dX12_needless_140
          · rw [er30] at hf
            have hf := el_r hf
            exact so hf
        · have hf := it_p c18 hf
          refine lv_iconst (v := (-1)) hx hb dX12_needless_45 (by decide) ?_
          obtain rfl := so hf
          exact W.iret (v := (-1)) hx hb hr (fun t ht _ => g_end hw t ht) hw.2.2.2.2 dX12_needless_46
  · have hf := it_p c13 hf
    refine lv_aload_n hx hb dX12_needless_7 rfl (lv_at hl 0 rfl) ?_
    refine lv_iconst (v := 1) hx hb dX12_needless_8 (by decide) ?_
    obtain ⟨q31, hq31, hf⟩ := bd hf
    refine g_Vi (As := [.int 1]) (rest := []) ⟨hx, hb, hml, hown, hts⟩ (k_X12_refuse hq31) (cwV 1 hts gX12_needless_X12_refuse rfl rfl rfl (by decide +kernel) ⟨Nat.le_of_ble_eq_true rfl, Nat.le_of_ble_eq_true rfl⟩) STR_ok hst hK hw rfl eR_c0 rfl rfl hl.1 rfl (Nat.le_of_ble_eq_true rfl) dX12_needless_9 ⟨Nat.zero_le _, Nat.zero_le _⟩ (fun H locs hw => ?_)
    have hw : Wo D ad (Aw ad 19 s.heap.size) (eR ad y q31.2 m_taped m_size m_to m_from m_kind m_number m_fault m_place m_name m_happenings m_newHappenings m_heard m_outs m_bounds a_tape a_happened a_many a_sort a_one a_other a_low a_high a_begins a_out a_behind a_ahead a_most a_left a_far a_quarrel a_early a_earlyLast) s.heap H locs := hw
    obtain rfl := so hf
    exact W.iret (v := q31.1) hx hb hr (fun t ht _ => g_end hw t ht) hw.2.2.2.2 dX12_needless_12
set_option maxHeartbeats 4000000 in
theorem k_X12_needless {l : Launch} {D : va_G} {ad : Nat → Nat} {y : Nat → ClassId} {m_thrown : Int32} {m_taped : Int32} {m_size : Int32} {m_to : Int32} {m_from : Int32} {m_kind : Int32} {m_number : Int32} {m_fault : Int32} {m_place : Int32} {m_name : Int64} {m_happenings : Int32} {m_newHappenings : Int32} {m_heard : Int32} {m_outs : Int32} {m_bounds : Int32} {a_tape : Nat → Int32} {a_happened : Nat → Int64} {a_many : Nat → Int32} {a_sort : Nat → Int32} {a_one : Nat → Int32} {a_other : Nat → Int32} {a_low : Nat → Int32} {a_high : Nat → Int32} {a_begins : Nat → Int32} {a_out : Nat → Int32} {a_behind : Nat → Int32} {a_ahead : Nat → Int32} {a_most : Nat → Int32} {a_left : Nat → Int32} {a_far : Nat → Int32} {a_quarrel : Nat → Int32} {a_early : Nat → Int32} {a_earlyLast : Nat → Int32} {p1 : Int32} {p2 : Int32} {res : Int32 × Int32 × Int32 × (Nat → Int32) × (Nat → Int32) × (Nat → Int32) × (Nat → Int32) × (Nat → Int32)} (hf : f_X12_needless m_thrown m_happenings m_heard m_bounds a_many a_sort a_one a_other a_low a_high a_behind a_ahead a_most a_left a_far p1 p2 = some res) : CTi l yX12_needless wsX12_needless rm_X12_needless D ad 19 (tyL y) (STR ad) (eR ad y m_thrown m_taped m_size m_to m_from m_kind m_number m_fault m_place m_name m_happenings m_newHappenings m_heard m_outs m_bounds a_tape a_happened a_many a_sort a_one a_other a_low a_high a_begins a_out a_behind a_ahead a_most a_left a_far a_quarrel a_early a_earlyLast) (eR ad y res.2.1 m_taped m_size m_to m_from m_kind m_number m_fault m_place m_name m_happenings m_newHappenings m_heard m_outs res.2.2.1 a_tape a_happened a_many a_sort a_one a_other a_low a_high a_begins a_out res.2.2.2.1 res.2.2.2.2.1 res.2.2.2.2.2.1 res.2.2.2.2.2.2.1 res.2.2.2.2.2.2.2 a_quarrel a_early a_earlyLast) [.ref (ad 0), .int p1, .int p2] res.1 := by
  intro sz
  refine Met.ofW (cc := cX12_needless) (maxL := 6) (ret := (some .int)) (by decide) rfl ?_
  intro p e s m args below meth c s₁ B hml hv
  obtain ⟨rfl, hsz, hP, hK, hD0, hst⟩ := hv
  subst hsz
  have C0 : CXT wsX12_needless cX12_needless RX12 6 (some .int) D (tyL y) (STR ad) p s m ([.ref (ad 0), .int p1, .int p2] : List Value).toArray meth c := ⟨B.exec, B.bytes, B.returns, hml, findClass_of_methodNamed B.named, atoms_spec (ws := wsX12_needless) B.pre, B.notSynchronized, hK, hst⟩
  have hw := g_start (n := 19) rfl hP hD0
  have hl := lv_entry ([.ref (ad 0), .int p1, .int p2]) (n := 6) (Nat.le_of_ble_eq_true rfl)
  rw [lg_entry_eq]
  generalize (lg_sl ([.ref (ad 0), .int p1, .int p2]) ++ List.replicate (6 - (lg_sl ([.ref (ad 0), .int p1, .int p2])).length) Slot.unset).toArray = ls at hl ⊢
  have hl : lv_has ls 6 [(0, .ref (ad 0)), (1, .int p1), (2, .int p2)] := hl
  exact ke_X12_needless C0 hf hw hl
abbrev rm_X12_isAhead : Room := { frames := 0, cells := 0, slots := 0, locals := 0 }
abbrev QM_X12_isAhead (below : List Frame) (args : Array Value) (s : State) (D : va_G) (ad : Nat → Nat) (y : Nat → ClassId) (m_thrown : Int32) (m_taped : Int32) (m_size : Int32) (m_to : Int32) (m_from : Int32) (m_kind : Int32) (m_number : Int32) (m_fault : Int32) (m_place : Int32) (m_name : Int64) (m_happenings : Int32) (m_newHappenings : Int32) (m_heard : Int32) (m_outs : Int32) (m_bounds : Int32) (a_tape : Nat → Int32) (a_happened : Nat → Int64) (a_many : Nat → Int32) (a_sort : Nat → Int32) (a_one : Nat → Int32) (a_other : Nat → Int32) (a_low : Nat → Int32) (a_high : Nat → Int32) (a_begins : Nat → Int32) (a_out : Nat → Int32) (a_behind : Nat → Int32) (a_ahead : Nat → Int32) (a_most : Nat → Int32) (a_left : Nat → Int32) (a_far : Nat → Int32) (a_quarrel : Nat → Int32) (a_early : Nat → Int32) (a_earlyLast : Nat → Int32) (res : Int32) : State → Prop := MQ below (va_Qi (fun x (_ : Unit) => x = res) (fun _ t => va_P D vwCl (wls ad (eR ad y m_thrown m_taped m_size m_to m_from m_kind m_number m_fault m_place m_name m_happenings m_newHappenings m_heard m_outs m_bounds a_tape a_happened a_many a_sort a_one a_other a_low a_high a_begins a_out a_behind a_ahead a_most a_left a_far a_quarrel a_early a_earlyLast)) t.heap) (Aw ad 19 s.heap.size)) args s 0 0 (Aw ad 19 s.heap.size)
set_option maxHeartbeats 4000000 in
set_option maxRecDepth 100000 in
theorem ke_X12_isAhead {p : Program} {l : Launch} {e : Env} {s : State} {m : MethodId} {args : Array Value} {below : List Frame} {meth : Method} {c : Code} {D : va_G} {ad : Nat → Nat} {y : Nat → ClassId} (C0 : CXT wsX12_isAhead cX12_isAhead RX12 3 (some .boolean) D (tyL y) (STR ad) p s m args meth c) {m_thrown : Int32} {m_taped : Int32} {m_size : Int32} {m_to : Int32} {m_from : Int32} {m_kind : Int32} {m_number : Int32} {m_fault : Int32} {m_place : Int32} {m_name : Int64} {m_happenings : Int32} {m_newHappenings : Int32} {m_heard : Int32} {m_outs : Int32} {m_bounds : Int32} {a_tape : Nat → Int32} {a_happened : Nat → Int64} {a_many : Nat → Int32} {a_sort : Nat → Int32} {a_one : Nat → Int32} {a_other : Nat → Int32} {a_low : Nat → Int32} {a_high : Nat → Int32} {a_begins : Nat → Int32} {a_out : Nat → Int32} {a_behind : Nat → Int32} {a_ahead : Nat → Int32} {a_most : Nat → Int32} {a_left : Nat → Int32} {a_far : Nat → Int32} {a_quarrel : Nat → Int32} {a_early : Nat → Int32} {a_earlyLast : Nat → Int32} {p1 : Int32} {p2 : Int32} {res : Int32} (hf : f_X12_isAhead a_early a_earlyLast p1 p2 = some res) {H : Heap} {locs : List Loc} {ls : Array Slot} (hw : Wo D ad (Aw ad 19 s.heap.size) (eR ad y m_thrown m_taped m_size m_to m_from m_kind m_number m_fault m_place m_name m_happenings m_newHappenings m_heard m_outs m_bounds a_tape a_happened a_many a_sort a_one a_other a_low a_high a_begins a_out a_behind a_ahead a_most a_left a_far a_quarrel a_early a_earlyLast) s.heap H locs) (hl : lv_has ls 3 [(0, .ref (ad 0)), (1, .int p1), (2, .int p2)]) : W p l e rm_X12_isAhead s m args below meth c H locs 0 0 (QM_X12_isAhead below args s D ad y (m_thrown) (m_taped) (m_size) (m_to) (m_from) (m_kind) (m_number) (m_fault) (m_place) (m_name) (m_happenings) (m_newHappenings) (m_heard) (m_outs) (m_bounds) (a_tape) (a_happened) (a_many) (a_sort) (a_one) (a_other) (a_low) (a_high) (a_begins) (a_out) (a_behind) (a_ahead) (a_most) (a_left) (a_far) (a_quarrel) (a_early) (a_earlyLast) res) (F0 m 0 ls []) := by
  obtain ⟨hx, hb, hr, hml, hown, hts, hlocks, hK, hst⟩ := id C0
  have i_X12 : ∀ w ∈ u_ws RX12 TX12 33, w ∈ wsX12_isAhead := by decide +kernel
  have L_64 := hts (.fieldLink RX12 64 "CaseOrderModel" "early" "[I") (by decide +kernel)
  have L_67 := hts (.fieldLink RX12 67 "CaseOrderModel" "earlyLast" "[I") (by decide +kernel)
  unfold f_X12_isAhead at hf
  refine lv_aload_n hx hb dX12_isAhead_0 rfl (lv_at hl 0 rfl) ?_
  refine g_get hx hb hts i_X12 hown hK hw 0 eR_c0 rfl 31 (by decide) L_64 (fun _ h => h) rfl dX12_isAhead_1 ?_
  refine lv_iload_n hx hb dX12_isAhead_4 rfl (lv_at hl 1 rfl) ?_
  obtain ⟨g9, hf⟩ := gIn_some hf
  refine g_iald hx hb hK hw 17 1 eR_c17 rfl g9 dX12_isAhead_5 ?_
  refine lv_aload_n hx hb dX12_isAhead_6 rfl (lv_at hl 0 rfl) ?_
  refine g_get hx hb hts i_X12 hown hK hw 0 eR_c0 rfl 31 (by decide) L_64 (fun _ h => h) rfl dX12_isAhead_7 ?_
  refine lv_iload_n hx hb dX12_isAhead_10 rfl (lv_at hl 2 rfl) ?_
  obtain ⟨g10, hf⟩ := gIn_some hf
  refine g_iald hx hb hK hw 17 1 eR_c17 rfl g10 dX12_isAhead_11 ?_
  refine lv_icmp_eq (tgt := 36) hx hb dX12_isAhead_12 (by decide) (fun c11 => ?_) (fun c11 => ?_)
  · have hf := it_p c11 hf
    refine lv_aload_n hx hb dX12_isAhead_36 rfl (lv_at hl 0 rfl) ?_
    refine g_get hx hb hts i_X12 hown hK hw 0 eR_c0 rfl 32 (by decide) L_67 (fun _ h => h) rfl dX12_isAhead_37 ?_
    refine lv_iload_n hx hb dX12_isAhead_40 rfl (lv_at hl 1 rfl) ?_
    obtain ⟨g12, hf⟩ := gIn_some hf
    refine g_iald hx hb hK hw 18 1 eR_c18 rfl g12 dX12_isAhead_41 ?_
    refine lv_aload_n hx hb dX12_isAhead_42 rfl (lv_at hl 0 rfl) ?_
    refine g_get hx hb hts i_X12 hown hK hw 0 eR_c0 rfl 32 (by decide) L_67 (fun _ h => h) rfl dX12_isAhead_43 ?_
    refine lv_iload_n hx hb dX12_isAhead_46 rfl (lv_at hl 2 rfl) ?_
    obtain ⟨g13, hf⟩ := gIn_some hf
    refine g_iald hx hb hK hw 18 1 eR_c18 rfl g13 dX12_isAhead_47 ?_
    refine lv_icmp_eq (tgt := 74) hx hb dX12_isAhead_48 (by decide) (fun c14 => ?_) (fun c14 => ?_)
    · have hf := it_p c14 hf
      refine lv_iload_n hx hb dX12_isAhead_74 rfl (lv_at hl 1 rfl) ?_
      refine lv_iload_n hx hb dX12_isAhead_75 rfl (lv_at hl 2 rfl) ?_
      refine lv_icmp_ge (tgt := 83) hx hb dX12_isAhead_76 (by decide) (fun c15 => ?_) (fun c15 => ?_)
      · have hf := it_p c15 hf
        refine lv_iconst (v := 0) hx hb dX12_isAhead_83 (by decide) ?_
        obtain rfl := so hf
        exact W.zret (v := 0) hx hb hr rfl (fun t ht _ => g_end hw t ht) hw.2.2.2.2 dX12_isAhead_84
      · have hf := it_n c15 hf
        refine lv_iconst (v := 1) hx hb dX12_isAhead_79 (by decide) ?_
        refine lv_goto (tgt := 84) hx hb dX12_isAhead_80 (by decide) ?_
        obtain rfl := so hf
        exact W.zret (v := 1) hx hb hr rfl (fun t ht _ => g_end hw t ht) hw.2.2.2.2 dX12_isAhead_84
    · have hf := it_n c14 hf
      refine lv_aload_n hx hb dX12_isAhead_51 rfl (lv_at hl 0 rfl) ?_
      refine g_get hx hb hts i_X12 hown hK hw 0 eR_c0 rfl 32 (by decide) L_67 (fun _ h => h) rfl dX12_isAhead_52 ?_
      refine lv_iload_n hx hb dX12_isAhead_55 rfl (lv_at hl 1 rfl) ?_
      obtain ⟨g16, hf⟩ := gIn_some hf
      refine g_iald hx hb hK hw 18 1 eR_c18 rfl g16 dX12_isAhead_56 ?_
      refine lv_aload_n hx hb dX12_isAhead_57 rfl (lv_at hl 0 rfl) ?_
      refine g_get hx hb hts i_X12 hown hK hw 0 eR_c0 rfl 32 (by decide) L_67 (fun _ h => h) rfl dX12_isAhead_58 ?_
      refine lv_iload_n hx hb dX12_isAhead_61 rfl (lv_at hl 2 rfl) ?_
      obtain ⟨g17, hf⟩ := gIn_some hf
      refine g_iald hx hb hK hw 18 1 eR_c18 rfl g17 dX12_isAhead_62 ?_
      refine lv_icmp_ge (tgt := 70) hx hb dX12_isAhead_63 (by decide) (fun c18 => ?_) (fun c18 => ?_)
      · have hf := it_p c18 hf
        refine lv_iconst (v := 0) hx hb dX12_isAhead_70 (by decide) ?_
        refine lv_goto (tgt := 84) hx hb dX12_isAhead_71 (by decide) ?_
        obtain rfl := so hf
        exact W.zret (v := 0) hx hb hr rfl (fun t ht _ => g_end hw t ht) hw.2.2.2.2 dX12_isAhead_84
      · have hf := it_n c18 hf
        refine lv_iconst (v := 1) hx hb dX12_isAhead_66 (by decide) ?_
        refine lv_goto (tgt := 84) hx hb dX12_isAhead_67 (by decide) ?_
        obtain rfl := so hf
        exact W.zret (v := 1) hx hb hr rfl (fun t ht _ => g_end hw t ht) hw.2.2.2.2 dX12_isAhead_84
  · have hf := it_n c11 hf
    refine lv_aload_n hx hb dX12_isAhead_15 rfl (lv_at hl 0 rfl) ?_
    refine g_get hx hb hts i_X12 hown hK hw 0 eR_c0 rfl 31 (by decide) L_64 (fun _ h => h) rfl dX12_isAhead_16 ?_
    refine lv_iload_n hx hb dX12_isAhead_19 rfl (lv_at hl 1 rfl) ?_
    obtain ⟨g19, hf⟩ := gIn_some hf
    refine g_iald hx hb hK hw 17 1 eR_c17 rfl g19 dX12_isAhead_20 ?_
    refine lv_aload_n hx hb dX12_isAhead_21 rfl (lv_at hl 0 rfl) ?_
    refine g_get hx hb hts i_X12 hown hK hw 0 eR_c0 rfl 31 (by decide) L_64 (fun _ h => h) rfl dX12_isAhead_22 ?_
    refine lv_iload_n hx hb dX12_isAhead_25 rfl (lv_at hl 2 rfl) ?_
    obtain ⟨g20, hf⟩ := gIn_some hf
    refine g_iald hx hb hK hw 17 1 eR_c17 rfl g20 dX12_isAhead_26 ?_
    refine lv_icmp_ge (tgt := 34) hx hb dX12_isAhead_27 (by decide) (fun c21 => ?_) (fun c21 => ?_)
    · have hf := it_p c21 hf
      refine lv_iconst (v := 0) hx hb dX12_isAhead_34 (by decide) ?_
      obtain rfl := so hf
      exact W.zret (v := 0) hx hb hr rfl (fun t ht _ => g_end hw t ht) hw.2.2.2.2 dX12_isAhead_35
    · have hf := it_n c21 hf
      refine lv_iconst (v := 1) hx hb dX12_isAhead_30 (by decide) ?_
      refine lv_goto (tgt := 35) hx hb dX12_isAhead_31 (by decide) ?_
      obtain rfl := so hf
      exact W.zret (v := 1) hx hb hr rfl (fun t ht _ => g_end hw t ht) hw.2.2.2.2 dX12_isAhead_35
set_option maxHeartbeats 4000000 in
theorem k_X12_isAhead {l : Launch} {D : va_G} {ad : Nat → Nat} {y : Nat → ClassId} {m_thrown : Int32} {m_taped : Int32} {m_size : Int32} {m_to : Int32} {m_from : Int32} {m_kind : Int32} {m_number : Int32} {m_fault : Int32} {m_place : Int32} {m_name : Int64} {m_happenings : Int32} {m_newHappenings : Int32} {m_heard : Int32} {m_outs : Int32} {m_bounds : Int32} {a_tape : Nat → Int32} {a_happened : Nat → Int64} {a_many : Nat → Int32} {a_sort : Nat → Int32} {a_one : Nat → Int32} {a_other : Nat → Int32} {a_low : Nat → Int32} {a_high : Nat → Int32} {a_begins : Nat → Int32} {a_out : Nat → Int32} {a_behind : Nat → Int32} {a_ahead : Nat → Int32} {a_most : Nat → Int32} {a_left : Nat → Int32} {a_far : Nat → Int32} {a_quarrel : Nat → Int32} {a_early : Nat → Int32} {a_earlyLast : Nat → Int32} {p1 : Int32} {p2 : Int32} {res : Int32} (hf : f_X12_isAhead a_early a_earlyLast p1 p2 = some res) : CTi l yX12_isAhead wsX12_isAhead rm_X12_isAhead D ad 19 (tyL y) (STR ad) (eR ad y m_thrown m_taped m_size m_to m_from m_kind m_number m_fault m_place m_name m_happenings m_newHappenings m_heard m_outs m_bounds a_tape a_happened a_many a_sort a_one a_other a_low a_high a_begins a_out a_behind a_ahead a_most a_left a_far a_quarrel a_early a_earlyLast) (eR ad y m_thrown m_taped m_size m_to m_from m_kind m_number m_fault m_place m_name m_happenings m_newHappenings m_heard m_outs m_bounds a_tape a_happened a_many a_sort a_one a_other a_low a_high a_begins a_out a_behind a_ahead a_most a_left a_far a_quarrel a_early a_earlyLast) [.ref (ad 0), .int p1, .int p2] res := by
  intro sz
  refine Met.ofW (cc := cX12_isAhead) (maxL := 3) (ret := (some .boolean)) (by decide) rfl ?_
  intro p e s m args below meth c s₁ B hml hv
  obtain ⟨rfl, hsz, hP, hK, hD0, hst⟩ := hv
  subst hsz
  have C0 : CXT wsX12_isAhead cX12_isAhead RX12 3 (some .boolean) D (tyL y) (STR ad) p s m ([.ref (ad 0), .int p1, .int p2] : List Value).toArray meth c := ⟨B.exec, B.bytes, B.returns, hml, findClass_of_methodNamed B.named, atoms_spec (ws := wsX12_isAhead) B.pre, B.notSynchronized, hK, hst⟩
  have hw := g_start (n := 19) rfl hP hD0
  have hl := lv_entry ([.ref (ad 0), .int p1, .int p2]) (n := 3) (Nat.le_of_ble_eq_true rfl)
  rw [lg_entry_eq]
  generalize (lg_sl ([.ref (ad 0), .int p1, .int p2]) ++ List.replicate (3 - (lg_sl ([.ref (ad 0), .int p1, .int p2])).length) Slot.unset).toArray = ls at hl ⊢
  have hl : lv_has ls 3 [(0, .ref (ad 0)), (1, .int p1), (2, .int p2)] := hl
  exact ke_X12_isAhead C0 hf hw hl
abbrev rm_X12_at : Room := { frames := 6, cells := 0, slots := 0, locals := 135 }
abbrev QM_X12_at (below : List Frame) (args : Array Value) (s : State) (D : va_G) (ad : Nat → Nat) (y : Nat → ClassId) (m_taped : Int32) (m_size : Int32) (m_to : Int32) (m_from : Int32) (m_kind : Int32) (m_number : Int32) (m_fault : Int32) (m_place : Int32) (m_name : Int64) (m_happenings : Int32) (m_newHappenings : Int32) (m_heard : Int32) (m_outs : Int32) (a_tape : Nat → Int32) (a_happened : Nat → Int64) (a_many : Nat → Int32) (a_sort : Nat → Int32) (a_one : Nat → Int32) (a_other : Nat → Int32) (a_low : Nat → Int32) (a_high : Nat → Int32) (a_begins : Nat → Int32) (a_out : Nat → Int32) (a_quarrel : Nat → Int32) (res : Int32 × Int32 × Int32 × (Nat → Int32) × (Nat → Int32) × (Nat → Int32) × (Nat → Int32) × (Nat → Int32) × (Nat → Int32) × (Nat → Int32)) : State → Prop := MQ below (va_Qi (fun x (_ : Unit) => x = res.1) (fun _ t => va_P D vwCl (wls ad (eR ad y res.2.1 m_taped m_size m_to m_from m_kind m_number m_fault m_place m_name m_happenings m_newHappenings m_heard m_outs res.2.2.1 a_tape a_happened a_many a_sort a_one a_other a_low a_high a_begins a_out res.2.2.2.1 res.2.2.2.2.1 res.2.2.2.2.2.1 res.2.2.2.2.2.2.1 res.2.2.2.2.2.2.2.1 a_quarrel res.2.2.2.2.2.2.2.2.1 res.2.2.2.2.2.2.2.2.2)) t.heap) (Aw ad 19 s.heap.size)) args s 0 0 (Aw ad 19 s.heap.size)
set_option maxHeartbeats 4000000 in
set_option maxRecDepth 100000 in
theorem kw_X12_at_28 {p : Program} {l : Launch} {e : Env} {s : State} {m : MethodId} {args : Array Value} {below : List Frame} {meth : Method} {c : Code} {D : va_G} {ad : Nat → Nat} {y : Nat → ClassId} (C0 : CXT wsX12_at cX12_at RX12 5 (some .int) D (tyL y) (STR ad) p s m args meth c) {m_thrown : Int32} {m_taped : Int32} {m_size : Int32} {m_to : Int32} {m_from : Int32} {m_kind : Int32} {m_number : Int32} {m_fault : Int32} {m_place : Int32} {m_name : Int64} {m_happenings : Int32} {m_newHappenings : Int32} {m_heard : Int32} {m_outs : Int32} {m_bounds : Int32} {a_tape : Nat → Int32} {a_happened : Nat → Int64} {a_many : Nat → Int32} {a_sort : Nat → Int32} {a_one : Nat → Int32} {a_other : Nat → Int32} {a_low : Nat → Int32} {a_high : Nat → Int32} {a_begins : Nat → Int32} {a_out : Nat → Int32} {a_behind : Nat → Int32} {a_ahead : Nat → Int32} {a_most : Nat → Int32} {a_left : Nat → Int32} {a_quarrel : Nat → Int32} {u1 : Int32} {res : Int32 × Int32 × Int32 × (Nat → Int32) × (Nat → Int32) × (Nat → Int32) × (Nat → Int32) × (Nat → Int32) × (Nat → Int32) × (Nat → Int32)} {sg : Int32 × (Nat → Int32) × (Nat → Int32) × (Nat → Int32)} {o : (Int32 × (Nat → Int32) × (Nat → Int32) × (Nat → Int32)) ⊕ (Int32 × (Nat → Int32) × (Nat → Int32) × (Nat → Int32))} (hf : f_X12_at_l28 m_thrown m_happenings m_heard m_bounds a_many a_sort a_one a_other a_low a_high a_behind a_ahead a_most a_left u1 sg = some o) {H : Heap} {locs : List Loc} {ls : Array Slot} (hw : Wo D ad (Aw ad 19 s.heap.size) (eR ad y m_thrown m_taped m_size m_to m_from m_kind m_number m_fault m_place m_name m_happenings m_newHappenings m_heard m_outs m_bounds a_tape a_happened a_many a_sort a_one a_other a_low a_high a_begins a_out a_behind a_ahead a_most a_left sg.2.1 a_quarrel sg.2.2.1 sg.2.2.2) s.heap H locs) (hl : lv_has ls 5 [(0, .ref (ad 0)), (1, .int u1), (2, .int sg.1)]) (hcont : ∀ s2, o = .inl s2 → ∀ (H : Heap) (locs : List Loc) (ls : Array Slot), Wo D ad (Aw ad 19 s.heap.size) (eR ad y m_thrown m_taped m_size m_to m_from m_kind m_number m_fault m_place m_name m_happenings m_newHappenings m_heard m_outs m_bounds a_tape a_happened a_many a_sort a_one a_other a_low a_high a_begins a_out a_behind a_ahead a_most a_left s2.2.1 a_quarrel s2.2.2.1 s2.2.2.2) s.heap H locs → lv_has ls 5 [(0, .ref (ad 0)), (1, .int u1), (2, .int s2.1)] → W p l e rm_X12_at s m args below meth c H locs 0 0 (QM_X12_at below args s D ad y (m_taped) (m_size) (m_to) (m_from) (m_kind) (m_number) (m_fault) (m_place) (m_name) (m_happenings) (m_newHappenings) (m_heard) (m_outs) (a_tape) (a_happened) (a_many) (a_sort) (a_one) (a_other) (a_low) (a_high) (a_begins) (a_out) (a_quarrel) res) (F0 m 28 ls [])) (hexit : ∀ t, o = .inr t → ∀ (H : Heap) (locs : List Loc) (ls : Array Slot), Wo D ad (Aw ad 19 s.heap.size) (eR ad y m_thrown m_taped m_size m_to m_from m_kind m_number m_fault m_place m_name m_happenings m_newHappenings m_heard m_outs m_bounds a_tape a_happened a_many a_sort a_one a_other a_low a_high a_begins a_out a_behind a_ahead a_most a_left t.2.1 a_quarrel t.2.2.1 t.2.2.2) s.heap H locs → lv_has ls 5 [(0, .ref (ad 0)), (1, .int u1), (2, .int t.1)] → W p l e rm_X12_at s m args below meth c H locs 0 0 (QM_X12_at below args s D ad y (m_taped) (m_size) (m_to) (m_from) (m_kind) (m_number) (m_fault) (m_place) (m_name) (m_happenings) (m_newHappenings) (m_heard) (m_outs) (a_tape) (a_happened) (a_many) (a_sort) (a_one) (a_other) (a_low) (a_high) (a_begins) (a_out) (a_quarrel) res) (F0 m 76 ls [])) : W p l e rm_X12_at s m args below meth c H locs 0 0 (QM_X12_at below args s D ad y (m_taped) (m_size) (m_to) (m_from) (m_kind) (m_number) (m_fault) (m_place) (m_name) (m_happenings) (m_newHappenings) (m_heard) (m_outs) (a_tape) (a_happened) (a_many) (a_sort) (a_one) (a_other) (a_low) (a_high) (a_begins) (a_out) (a_quarrel) res) (F0 m 28 ls []) := by
  obtain ⟨hx, hb, hr, hml, hown, hts, hlocks, hK, hst⟩ := id C0
  have i_X12 : ∀ w ∈ u_ws RX12 TX12 33, w ∈ wsX12_at := by decide +kernel
  have L_181 := hts (.fieldLink RX12 181 "CaseOrderModel" "happenings" "I") (by decide +kernel)
  have L_64 := hts (.fieldLink RX12 64 "CaseOrderModel" "early" "[I") (by decide +kernel)
  have L_67 := hts (.fieldLink RX12 67 "CaseOrderModel" "earlyLast" "[I") (by decide +kernel)
  unfold f_X12_at_l28 at hf
  refine lv_iload_n hx hb dX12_at_28 rfl (lv_at hl 2 rfl) ?_
  refine lv_aload_n hx hb dX12_at_29 rfl (lv_at hl 0 rfl) ?_
  refine g_get hx hb hts i_X12 hown hK hw 0 eR_c0 rfl 12 (by decide) L_181 (fun _ h => h) rfl dX12_at_30 ?_
  refine lv_icmp_ge (tgt := 76) hx hb dX12_at_33 (by decide) (fun c11 => ?_) (fun c11 => ?_)
  · have hf := it_p c11 hf
    exact hexit _ (so hf).symm _ _ _ hw (lv_sub hl [0, 1, 2] rfl)
  · have hf := it_n c11 hf
    refine lv_aload_n hx hb dX12_at_36 rfl (lv_at hl 0 rfl) ?_
    refine g_get hx hb hts i_X12 hown hK hw 0 eR_c0 rfl 31 (by decide) L_64 (fun _ h => h) rfl dX12_at_37 ?_
    refine lv_iload_n hx hb dX12_at_40 rfl (lv_at hl 2 rfl) ?_
    refine lv_aload_n hx hb dX12_at_41 rfl (lv_at hl 0 rfl) ?_
    refine lv_iconst (v := 1) hx hb dX12_at_42 (by decide) ?_
    refine lv_iconst (v := 2) hx hb dX12_at_43 (by decide) ?_
    refine lv_iload_n hx hb dX12_at_44 rfl (lv_at hl 2 rfl) ?_
    refine lv_imul hx hb dX12_at_45 ?_
    refine lv_iadd hx hb dX12_at_46 ?_
    refine lv_iconst (v := 0) hx hb dX12_at_47 (by decide) ?_
    obtain ⟨q12, hq12, hf⟩ := bd hf
    refine g_Vi (As := [.int (1 + (2 * sg.1)), .int 0]) (rest := [.int sg.1, .ref (ad 17)]) ⟨hx, hb, hml, hown, hts⟩ (k_X12_mostOf hq12) (cwV 2 hts gX12_at_X12_mostOf rfl rfl rfl (by decide +kernel) ⟨Nat.le_of_ble_eq_true rfl, Nat.le_of_ble_eq_true rfl⟩) STR_ok hst hK hw rfl eR_c0 rfl rfl hl.1 rfl (Nat.le_of_ble_eq_true rfl) dX12_at_48 ⟨Nat.zero_le _, Nat.zero_le _⟩ (fun H locs hw => ?_)
    have hw : Wo D ad (Aw ad 19 s.heap.size) (eR ad y m_thrown m_taped m_size m_to m_from m_kind m_number m_fault m_place m_name m_happenings m_newHappenings m_heard m_outs m_bounds a_tape a_happened a_many a_sort a_one a_other a_low a_high a_begins a_out a_behind a_ahead a_most a_left q12.2 a_quarrel sg.2.2.1 sg.2.2.2) s.heap H locs := hw
    refine lv_ineg hx hb dX12_at_51 ?_
    obtain ⟨g13, hf⟩ := gIn_some hf
    refine g_iast hx hb hK hw 17 1 eR_c17 rfl g13 dX12_at_52 (fun H locs hw => ?_)
    have hw : Wo D ad (Aw ad 19 s.heap.size) (eR ad y m_thrown m_taped m_size m_to m_from m_kind m_number m_fault m_place m_name m_happenings m_newHappenings m_heard m_outs m_bounds a_tape a_happened a_many a_sort a_one a_other a_low a_high a_begins a_out a_behind a_ahead a_most a_left q12.2 a_quarrel (upd sg.2.2.1 (Int32.toNatClampNeg sg.1) (-q12.1)) sg.2.2.2) s.heap H locs := hw
    refine lv_aload_n hx hb dX12_at_53 rfl (lv_at hl 0 rfl) ?_
    refine g_get hx hb hts i_X12 hown hK hw 0 eR_c0 rfl 32 (by decide) L_67 (fun _ h => h) rfl dX12_at_54 ?_
    refine lv_iload_n hx hb dX12_at_57 rfl (lv_at hl 2 rfl) ?_
    refine lv_aload_n hx hb dX12_at_58 rfl (lv_at hl 0 rfl) ?_
    refine lv_iconst (v := 2) hx hb dX12_at_59 (by decide) ?_
    refine lv_iconst (v := 2) hx hb dX12_at_60 (by decide) ?_
    refine lv_iload_n hx hb dX12_at_61 rfl (lv_at hl 2 rfl) ?_
    refine lv_imul hx hb dX12_at_62 ?_
    refine lv_iadd hx hb dX12_at_63 ?_
    refine lv_iconst (v := 0) hx hb dX12_at_64 (by decide) ?_
    obtain ⟨q14, hq14, hf⟩ := bd hf
    refine g_Vi (As := [.int (2 + (2 * sg.1)), .int 0]) (rest := [.int sg.1, .ref (ad 18)]) ⟨hx, hb, hml, hown, hts⟩ (k_X12_mostOf hq14) (cwV 2 hts gX12_at_X12_mostOf rfl rfl rfl (by decide +kernel) ⟨Nat.le_of_ble_eq_true rfl, Nat.le_of_ble_eq_true rfl⟩) STR_ok hst hK hw rfl eR_c0 rfl rfl hl.1 rfl (Nat.le_of_ble_eq_true rfl) dX12_at_65 ⟨Nat.zero_le _, Nat.zero_le _⟩ (fun H locs hw => ?_)
    have hw : Wo D ad (Aw ad 19 s.heap.size) (eR ad y m_thrown m_taped m_size m_to m_from m_kind m_number m_fault m_place m_name m_happenings m_newHappenings m_heard m_outs m_bounds a_tape a_happened a_many a_sort a_one a_other a_low a_high a_begins a_out a_behind a_ahead a_most a_left q14.2 a_quarrel (upd sg.2.2.1 (Int32.toNatClampNeg sg.1) (-q12.1)) sg.2.2.2) s.heap H locs := hw
    refine lv_ineg hx hb dX12_at_68 ?_
    obtain ⟨g15, hf⟩ := gIn_some hf
    refine g_iast hx hb hK hw 18 1 eR_c18 rfl g15 dX12_at_69 (fun H locs hw => ?_)
    have hw : Wo D ad (Aw ad 19 s.heap.size) (eR ad y m_thrown m_taped m_size m_to m_from m_kind m_number m_fault m_place m_name m_happenings m_newHappenings m_heard m_outs m_bounds a_tape a_happened a_many a_sort a_one a_other a_low a_high a_begins a_out a_behind a_ahead a_most a_left q14.2 a_quarrel (upd sg.2.2.1 (Int32.toNatClampNeg sg.1) (-q12.1)) (upd sg.2.2.2 (Int32.toNatClampNeg sg.1) (-q14.1))) s.heap H locs := hw
    refine lv_iinc (v := sg.1 + 1) (lv' := [(2, .int (sg.1 + 1)), (0, .ref (ad 0)), (1, .int u1)]) hx hb dX12_at_70 hl (k := 2) rfl rfl (by decide) rfl (fun ls hl => ?_)
    refine lv_goto (tgt := 28) hx hb dX12_at_73 (by decide) ?_
    exact hcont _ (so hf).symm _ _ _ hw (lv_sub hl [1, 2, 0] rfl)
set_option maxHeartbeats 4000000 in
theorem kl_X12_at_28 {p : Program} {l : Launch} {e : Env} {s : State} {m : MethodId} {args : Array Value} {below : List Frame} {meth : Method} {c : Code} {D : va_G} {ad : Nat → Nat} {y : Nat → ClassId} (C0 : CXT wsX12_at cX12_at RX12 5 (some .int) D (tyL y) (STR ad) p s m args meth c) {m_thrown : Int32} {m_taped : Int32} {m_size : Int32} {m_to : Int32} {m_from : Int32} {m_kind : Int32} {m_number : Int32} {m_fault : Int32} {m_place : Int32} {m_name : Int64} {m_happenings : Int32} {m_newHappenings : Int32} {m_heard : Int32} {m_outs : Int32} {m_bounds : Int32} {a_tape : Nat → Int32} {a_happened : Nat → Int64} {a_many : Nat → Int32} {a_sort : Nat → Int32} {a_one : Nat → Int32} {a_other : Nat → Int32} {a_low : Nat → Int32} {a_high : Nat → Int32} {a_begins : Nat → Int32} {a_out : Nat → Int32} {a_behind : Nat → Int32} {a_ahead : Nat → Int32} {a_most : Nat → Int32} {a_left : Nat → Int32} {a_quarrel : Nat → Int32} {u1 : Int32} {res : Int32 × Int32 × Int32 × (Nat → Int32) × (Nat → Int32) × (Nat → Int32) × (Nat → Int32) × (Nat → Int32) × (Nat → Int32) × (Nat → Int32)} : ∀ (n : Nat) (sg : Int32 × (Nat → Int32) × (Nat → Int32) × (Nat → Int32)) (q : Int32 × (Nat → Int32) × (Nat → Int32) × (Nat → Int32)), lp (f_X12_at_l28 m_thrown m_happenings m_heard m_bounds a_many a_sort a_one a_other a_low a_high a_behind a_ahead a_most a_left u1) n sg = some q → ∀ (H : Heap) (locs : List Loc) (ls : Array Slot), Wo D ad (Aw ad 19 s.heap.size) (eR ad y m_thrown m_taped m_size m_to m_from m_kind m_number m_fault m_place m_name m_happenings m_newHappenings m_heard m_outs m_bounds a_tape a_happened a_many a_sort a_one a_other a_low a_high a_begins a_out a_behind a_ahead a_most a_left sg.2.1 a_quarrel sg.2.2.1 sg.2.2.2) s.heap H locs → lv_has ls 5 [(0, .ref (ad 0)), (1, .int u1), (2, .int sg.1)] → (∀ (H : Heap) (locs : List Loc) (ls : Array Slot), Wo D ad (Aw ad 19 s.heap.size) (eR ad y m_thrown m_taped m_size m_to m_from m_kind m_number m_fault m_place m_name m_happenings m_newHappenings m_heard m_outs m_bounds a_tape a_happened a_many a_sort a_one a_other a_low a_high a_begins a_out a_behind a_ahead a_most a_left q.2.1 a_quarrel q.2.2.1 q.2.2.2) s.heap H locs → lv_has ls 5 [(0, .ref (ad 0)), (1, .int u1), (2, .int q.1)] → W p l e rm_X12_at s m args below meth c H locs 0 0 (QM_X12_at below args s D ad y (m_taped) (m_size) (m_to) (m_from) (m_kind) (m_number) (m_fault) (m_place) (m_name) (m_happenings) (m_newHappenings) (m_heard) (m_outs) (a_tape) (a_happened) (a_many) (a_sort) (a_one) (a_other) (a_low) (a_high) (a_begins) (a_out) (a_quarrel) res) (F0 m 76 ls [])) → W p l e rm_X12_at s m args below meth c H locs 0 0 (QM_X12_at below args s D ad y (m_taped) (m_size) (m_to) (m_from) (m_kind) (m_number) (m_fault) (m_place) (m_name) (m_happenings) (m_newHappenings) (m_heard) (m_outs) (a_tape) (a_happened) (a_many) (a_sort) (a_one) (a_other) (a_low) (a_high) (a_begins) (a_out) (a_quarrel) res) (F0 m 28 ls []) := by
  intro n
  induction n with
  | zero => intro sg q hf; exact absurd hf lp_zero
  | succ n ih =>
    intro sg q hf H locs ls hw hl hexit
    rcases lp_succ hf with ⟨sg2, h1, h2⟩ | h1
    · exact kw_X12_at_28 C0 h1 hw hl (fun s2 e2 H locs ls hw hl => by cases e2; exact ih _ q h2 H locs ls hw hl hexit) (fun t e2 => by cases e2)
    · exact kw_X12_at_28 C0 h1 hw hl (fun s2 e2 => by cases e2) (fun t e2 => by cases e2; exact hexit)
set_option maxHeartbeats 4000000 in
set_option maxRecDepth 100000 in
theorem kw_X12_at_91 {p : Program} {l : Launch} {e : Env} {s : State} {m : MethodId} {args : Array Value} {below : List Frame} {meth : Method} {c : Code} {D : va_G} {ad : Nat → Nat} {y : Nat → ClassId} (C0 : CXT wsX12_at cX12_at RX12 5 (some .int) D (tyL y) (STR ad) p s m args meth c) {m_thrown : Int32} {m_taped : Int32} {m_size : Int32} {m_to : Int32} {m_from : Int32} {m_kind : Int32} {m_number : Int32} {m_fault : Int32} {m_place : Int32} {m_name : Int64} {m_happenings : Int32} {m_newHappenings : Int32} {m_heard : Int32} {m_outs : Int32} {m_bounds : Int32} {a_tape : Nat → Int32} {a_happened : Nat → Int64} {a_many : Nat → Int32} {a_sort : Nat → Int32} {a_one : Nat → Int32} {a_other : Nat → Int32} {a_low : Nat → Int32} {a_high : Nat → Int32} {a_begins : Nat → Int32} {a_out : Nat → Int32} {a_behind : Nat → Int32} {a_ahead : Nat → Int32} {a_most : Nat → Int32} {a_left : Nat → Int32} {a_far : Nat → Int32} {a_quarrel : Nat → Int32} {a_early : Nat → Int32} {a_earlyLast : Nat → Int32} {u1 : Int32} {u2 : Int32} {res : Int32 × Int32 × Int32 × (Nat → Int32) × (Nat → Int32) × (Nat → Int32) × (Nat → Int32) × (Nat → Int32) × (Nat → Int32) × (Nat → Int32)} {sg : Int32 × Int32} {o : (Int32 × Int32) ⊕ (Int32 × Int32)} (hf : f_X12_at_l91 m_thrown m_happenings m_heard m_bounds a_many a_sort a_one a_other a_low a_high a_behind a_ahead a_most a_left a_far a_early a_earlyLast u1 u2 sg = some o) {H : Heap} {locs : List Loc} {ls : Array Slot} (hw : Wo D ad (Aw ad 19 s.heap.size) (eR ad y m_thrown m_taped m_size m_to m_from m_kind m_number m_fault m_place m_name m_happenings m_newHappenings m_heard m_outs m_bounds a_tape a_happened a_many a_sort a_one a_other a_low a_high a_begins a_out a_behind a_ahead a_most a_left a_far a_quarrel a_early a_earlyLast) s.heap H locs) (hl : lv_has ls 5 [(0, .ref (ad 0)), (1, .int u1), (2, .int u2), (3, .int sg.1), (4, .int sg.2)]) (hcont : ∀ s2, o = .inl s2 → ∀ (H : Heap) (locs : List Loc) (ls : Array Slot), Wo D ad (Aw ad 19 s.heap.size) (eR ad y m_thrown m_taped m_size m_to m_from m_kind m_number m_fault m_place m_name m_happenings m_newHappenings m_heard m_outs m_bounds a_tape a_happened a_many a_sort a_one a_other a_low a_high a_begins a_out a_behind a_ahead a_most a_left a_far a_quarrel a_early a_earlyLast) s.heap H locs → lv_has ls 5 [(0, .ref (ad 0)), (1, .int u1), (2, .int u2), (3, .int s2.1), (4, .int s2.2)] → W p l e rm_X12_at s m args below meth c H locs 0 0 (QM_X12_at below args s D ad y (m_taped) (m_size) (m_to) (m_from) (m_kind) (m_number) (m_fault) (m_place) (m_name) (m_happenings) (m_newHappenings) (m_heard) (m_outs) (a_tape) (a_happened) (a_many) (a_sort) (a_one) (a_other) (a_low) (a_high) (a_begins) (a_out) (a_quarrel) res) (F0 m 91 ls [])) (hexit : ∀ t, o = .inr t → ∀ (H : Heap) (locs : List Loc) (ls : Array Slot), Wo D ad (Aw ad 19 s.heap.size) (eR ad y m_thrown m_taped m_size m_to m_from m_kind m_number m_fault m_place m_name m_happenings m_newHappenings m_heard m_outs m_bounds a_tape a_happened a_many a_sort a_one a_other a_low a_high a_begins a_out a_behind a_ahead a_most a_left a_far a_quarrel a_early a_earlyLast) s.heap H locs → lv_has ls 5 [(0, .ref (ad 0)), (1, .int u1), (2, .int u2), (3, .int t.1), (4, .int t.2)] → W p l e rm_X12_at s m args below meth c H locs 0 0 (QM_X12_at below args s D ad y (m_taped) (m_size) (m_to) (m_from) (m_kind) (m_number) (m_fault) (m_place) (m_name) (m_happenings) (m_newHappenings) (m_heard) (m_outs) (a_tape) (a_happened) (a_many) (a_sort) (a_one) (a_other) (a_low) (a_high) (a_begins) (a_out) (a_quarrel) res) (F0 m 125 ls [])) : W p l e rm_X12_at s m args below meth c H locs 0 0 (QM_X12_at below args s D ad y (m_taped) (m_size) (m_to) (m_from) (m_kind) (m_number) (m_fault) (m_place) (m_name) (m_happenings) (m_newHappenings) (m_heard) (m_outs) (a_tape) (a_happened) (a_many) (a_sort) (a_one) (a_other) (a_low) (a_high) (a_begins) (a_out) (a_quarrel) res) (F0 m 91 ls []) := by
  obtain ⟨hx, hb, hr, hml, hown, hts, hlocks, hK, hst⟩ := id C0
  have i_X12 : ∀ w ∈ u_ws RX12 TX12 33, w ∈ wsX12_at := by decide +kernel
  have L_181 := hts (.fieldLink RX12 181 "CaseOrderModel" "happenings" "I") (by decide +kernel)
  unfold f_X12_at_l91 at hf
  refine lv_iload hx hb dX12_at_91 (lv_at hl 4 rfl) ?_
  refine lv_aload_n hx hb dX12_at_93 rfl (lv_at hl 0 rfl) ?_
  refine g_get hx hb hts i_X12 hown hK hw 0 eR_c0 rfl 12 (by decide) L_181 (fun _ h => h) rfl dX12_at_94 ?_
  refine lv_icmp_ge (tgt := 125) hx hb dX12_at_97 (by decide) (fun c18 => ?_) (fun c18 => ?_)
  · have hf := it_p c18 hf
    exact hexit _ (so hf).symm _ _ _ hw (lv_sub hl [0, 1, 2, 3, 4] rfl)
  · have hf := it_n c18 hf
    refine lv_iload hx hb dX12_at_100 (lv_at hl 4 rfl) ?_
    refine lv_iload_n hx hb dX12_at_102 rfl (lv_at hl 2 rfl) ?_
    refine lv_icmp_eq (tgt := 119) hx hb dX12_at_103 (by decide) (fun c19 => ?_) (fun c19 => ?_)
    · have hf := it_p c19 hf
      refine lv_iinc (v := sg.2 + 1) (lv' := [(4, .int (sg.2 + 1)), (0, .ref (ad 0)), (1, .int u1), (2, .int u2), (3, .int sg.1)]) hx hb dX12_at_119 hl (k := 4) rfl rfl (by decide) rfl (fun ls hl => ?_)
      refine lv_goto (tgt := 91) hx hb dX12_at_122 (by decide) ?_
      exact hcont _ (so hf).symm _ _ _ hw (lv_sub hl [1, 2, 3, 4, 0] rfl)
    · have hf := it_n c19 hf
      refine lv_aload_n hx hb dX12_at_106 rfl (lv_at hl 0 rfl) ?_
      refine lv_iload hx hb dX12_at_107 (lv_at hl 4 rfl) ?_
      refine lv_iload_n hx hb dX12_at_109 rfl (lv_at hl 2 rfl) ?_
      obtain ⟨q20, hq20, hf⟩ := bd hf
      refine g_Vi (As := [.int sg.2, .int u2]) (rest := []) ⟨hx, hb, hml, hown, hts⟩ (k_X12_isAhead hq20) (cwV 2 hts gX12_at_X12_isAhead rfl rfl rfl (by decide +kernel) ⟨Nat.le_of_ble_eq_true rfl, Nat.le_of_ble_eq_true rfl⟩) STR_ok hst hK hw rfl eR_c0 rfl rfl hl.1 rfl (Nat.le_of_ble_eq_true rfl) dX12_at_110 ⟨Nat.zero_le _, Nat.zero_le _⟩ (fun H locs hw => ?_)
      refine lv_if_eq (tgt := 119) hx hb dX12_at_113 (by decide) (fun c21 => ?_) (fun c21 => ?_)
      · have hf := it_p c21 hf
        refine lv_iinc (v := sg.2 + 1) (lv' := [(4, .int (sg.2 + 1)), (0, .ref (ad 0)), (1, .int u1), (2, .int u2), (3, .int sg.1)]) hx hb dX12_at_119 hl (k := 4) rfl rfl (by decide) rfl (fun ls hl => ?_)
        refine lv_goto (tgt := 91) hx hb dX12_at_122 (by decide) ?_
        exact hcont _ (so hf).symm _ _ _ hw (lv_sub hl [1, 2, 3, 4, 0] rfl)
      · have hf := it_n c21 hf
        refine lv_iinc (v := sg.1 + 1) (lv' := [(3, .int (sg.1 + 1)), (0, .ref (ad 0)), (1, .int u1), (2, .int u2), (4, .int sg.2)]) hx hb dX12_at_116 hl (k := 3) rfl rfl (by decide) rfl (fun ls hl => ?_)
        refine lv_iinc (v := sg.2 + 1) (lv' := [(4, .int (sg.2 + 1)), (3, .int (sg.1 + 1)), (0, .ref (ad 0)), (1, .int u1), (2, .int u2)]) hx hb dX12_at_119 hl (k := 4) rfl rfl (by decide) rfl (fun ls hl => ?_)
        refine lv_goto (tgt := 91) hx hb dX12_at_122 (by decide) ?_
        exact hcont _ (so hf).symm _ _ _ hw (lv_sub hl [2, 3, 4, 1, 0] rfl)
set_option maxHeartbeats 4000000 in
theorem kl_X12_at_91 {p : Program} {l : Launch} {e : Env} {s : State} {m : MethodId} {args : Array Value} {below : List Frame} {meth : Method} {c : Code} {D : va_G} {ad : Nat → Nat} {y : Nat → ClassId} (C0 : CXT wsX12_at cX12_at RX12 5 (some .int) D (tyL y) (STR ad) p s m args meth c) {m_thrown : Int32} {m_taped : Int32} {m_size : Int32} {m_to : Int32} {m_from : Int32} {m_kind : Int32} {m_number : Int32} {m_fault : Int32} {m_place : Int32} {m_name : Int64} {m_happenings : Int32} {m_newHappenings : Int32} {m_heard : Int32} {m_outs : Int32} {m_bounds : Int32} {a_tape : Nat → Int32} {a_happened : Nat → Int64} {a_many : Nat → Int32} {a_sort : Nat → Int32} {a_one : Nat → Int32} {a_other : Nat → Int32} {a_low : Nat → Int32} {a_high : Nat → Int32} {a_begins : Nat → Int32} {a_out : Nat → Int32} {a_behind : Nat → Int32} {a_ahead : Nat → Int32} {a_most : Nat → Int32} {a_left : Nat → Int32} {a_far : Nat → Int32} {a_quarrel : Nat → Int32} {a_early : Nat → Int32} {a_earlyLast : Nat → Int32} {u1 : Int32} {u2 : Int32} {res : Int32 × Int32 × Int32 × (Nat → Int32) × (Nat → Int32) × (Nat → Int32) × (Nat → Int32) × (Nat → Int32) × (Nat → Int32) × (Nat → Int32)} : ∀ (n : Nat) (sg : Int32 × Int32) (q : Int32 × Int32), lp (f_X12_at_l91 m_thrown m_happenings m_heard m_bounds a_many a_sort a_one a_other a_low a_high a_behind a_ahead a_most a_left a_far a_early a_earlyLast u1 u2) n sg = some q → ∀ (H : Heap) (locs : List Loc) (ls : Array Slot), Wo D ad (Aw ad 19 s.heap.size) (eR ad y m_thrown m_taped m_size m_to m_from m_kind m_number m_fault m_place m_name m_happenings m_newHappenings m_heard m_outs m_bounds a_tape a_happened a_many a_sort a_one a_other a_low a_high a_begins a_out a_behind a_ahead a_most a_left a_far a_quarrel a_early a_earlyLast) s.heap H locs → lv_has ls 5 [(0, .ref (ad 0)), (1, .int u1), (2, .int u2), (3, .int sg.1), (4, .int sg.2)] → (∀ (H : Heap) (locs : List Loc) (ls : Array Slot), Wo D ad (Aw ad 19 s.heap.size) (eR ad y m_thrown m_taped m_size m_to m_from m_kind m_number m_fault m_place m_name m_happenings m_newHappenings m_heard m_outs m_bounds a_tape a_happened a_many a_sort a_one a_other a_low a_high a_begins a_out a_behind a_ahead a_most a_left a_far a_quarrel a_early a_earlyLast) s.heap H locs → lv_has ls 5 [(0, .ref (ad 0)), (1, .int u1), (2, .int u2), (3, .int q.1), (4, .int q.2)] → W p l e rm_X12_at s m args below meth c H locs 0 0 (QM_X12_at below args s D ad y (m_taped) (m_size) (m_to) (m_from) (m_kind) (m_number) (m_fault) (m_place) (m_name) (m_happenings) (m_newHappenings) (m_heard) (m_outs) (a_tape) (a_happened) (a_many) (a_sort) (a_one) (a_other) (a_low) (a_high) (a_begins) (a_out) (a_quarrel) res) (F0 m 125 ls [])) → W p l e rm_X12_at s m args below meth c H locs 0 0 (QM_X12_at below args s D ad y (m_taped) (m_size) (m_to) (m_from) (m_kind) (m_number) (m_fault) (m_place) (m_name) (m_happenings) (m_newHappenings) (m_heard) (m_outs) (a_tape) (a_happened) (a_many) (a_sort) (a_one) (a_other) (a_low) (a_high) (a_begins) (a_out) (a_quarrel) res) (F0 m 91 ls []) := by
  intro n
  induction n with
  | zero => intro sg q hf; exact absurd hf lp_zero
  | succ n ih =>
    intro sg q hf H locs ls hw hl hexit
    rcases lp_succ hf with ⟨sg2, h1, h2⟩ | h1
    · exact kw_X12_at_91 C0 h1 hw hl (fun s2 e2 H locs ls hw hl => by cases e2; exact ih _ q h2 H locs ls hw hl hexit) (fun t e2 => by cases e2)
    · exact kw_X12_at_91 C0 h1 hw hl (fun s2 e2 => by cases e2) (fun t e2 => by cases e2; exact hexit)
set_option maxHeartbeats 4000000 in
set_option maxRecDepth 100000 in
theorem kw_X12_at_78 {p : Program} {l : Launch} {e : Env} {s : State} {m : MethodId} {args : Array Value} {below : List Frame} {meth : Method} {c : Code} {D : va_G} {ad : Nat → Nat} {y : Nat → ClassId} (C0 : CXT wsX12_at cX12_at RX12 5 (some .int) D (tyL y) (STR ad) p s m args meth c) {m_thrown : Int32} {m_taped : Int32} {m_size : Int32} {m_to : Int32} {m_from : Int32} {m_kind : Int32} {m_number : Int32} {m_fault : Int32} {m_place : Int32} {m_name : Int64} {m_happenings : Int32} {m_newHappenings : Int32} {m_heard : Int32} {m_outs : Int32} {m_bounds : Int32} {a_tape : Nat → Int32} {a_happened : Nat → Int64} {a_many : Nat → Int32} {a_sort : Nat → Int32} {a_one : Nat → Int32} {a_other : Nat → Int32} {a_low : Nat → Int32} {a_high : Nat → Int32} {a_begins : Nat → Int32} {a_out : Nat → Int32} {a_behind : Nat → Int32} {a_ahead : Nat → Int32} {a_most : Nat → Int32} {a_left : Nat → Int32} {a_far : Nat → Int32} {a_quarrel : Nat → Int32} {a_early : Nat → Int32} {a_earlyLast : Nat → Int32} {u1 : Int32} {res : Int32 × Int32 × Int32 × (Nat → Int32) × (Nat → Int32) × (Nat → Int32) × (Nat → Int32) × (Nat → Int32) × (Nat → Int32) × (Nat → Int32)} {sg : Int32} {o : (Int32) ⊕ ((Int32) ⊕ (Int32 × Int32 × Int32 × (Nat → Int32) × (Nat → Int32) × (Nat → Int32) × (Nat → Int32) × (Nat → Int32) × (Nat → Int32) × (Nat → Int32)))} (hf : f_X12_at_l78 m_thrown m_happenings m_heard m_bounds a_many a_sort a_one a_other a_low a_high a_behind a_ahead a_most a_left a_far a_early a_earlyLast u1 sg = some o) {H : Heap} {locs : List Loc} {ls : Array Slot} (hw : Wo D ad (Aw ad 19 s.heap.size) (eR ad y m_thrown m_taped m_size m_to m_from m_kind m_number m_fault m_place m_name m_happenings m_newHappenings m_heard m_outs m_bounds a_tape a_happened a_many a_sort a_one a_other a_low a_high a_begins a_out a_behind a_ahead a_most a_left a_far a_quarrel a_early a_earlyLast) s.heap H locs) (hl : lv_has ls 5 [(0, .ref (ad 0)), (1, .int u1), (2, .int sg)]) (hcont : ∀ s2, o = .inl s2 → ∀ (H : Heap) (locs : List Loc) (ls : Array Slot), Wo D ad (Aw ad 19 s.heap.size) (eR ad y m_thrown m_taped m_size m_to m_from m_kind m_number m_fault m_place m_name m_happenings m_newHappenings m_heard m_outs m_bounds a_tape a_happened a_many a_sort a_one a_other a_low a_high a_begins a_out a_behind a_ahead a_most a_left a_far a_quarrel a_early a_earlyLast) s.heap H locs → lv_has ls 5 [(0, .ref (ad 0)), (1, .int u1), (2, .int s2)] → W p l e rm_X12_at s m args below meth c H locs 0 0 (QM_X12_at below args s D ad y (m_taped) (m_size) (m_to) (m_from) (m_kind) (m_number) (m_fault) (m_place) (m_name) (m_happenings) (m_newHappenings) (m_heard) (m_outs) (a_tape) (a_happened) (a_many) (a_sort) (a_one) (a_other) (a_low) (a_high) (a_begins) (a_out) (a_quarrel) res) (F0 m 78 ls [])) (hexit : ∀ t, o = .inr (.inl t) → ∀ (H : Heap) (locs : List Loc) (ls : Array Slot), Wo D ad (Aw ad 19 s.heap.size) (eR ad y m_thrown m_taped m_size m_to m_from m_kind m_number m_fault m_place m_name m_happenings m_newHappenings m_heard m_outs m_bounds a_tape a_happened a_many a_sort a_one a_other a_low a_high a_begins a_out a_behind a_ahead a_most a_left a_far a_quarrel a_early a_earlyLast) s.heap H locs → lv_has ls 5 [(0, .ref (ad 0)), (1, .int u1), (2, .int t)] → W p l e rm_X12_at s m args below meth c H locs 0 0 (QM_X12_at below args s D ad y (m_taped) (m_size) (m_to) (m_from) (m_kind) (m_number) (m_fault) (m_place) (m_name) (m_happenings) (m_newHappenings) (m_heard) (m_outs) (a_tape) (a_happened) (a_many) (a_sort) (a_one) (a_other) (a_low) (a_high) (a_begins) (a_out) (a_quarrel) res) (F0 m 138 ls [])) (hret : ∀ r, o = .inr (.inr r) → r = res) : W p l e rm_X12_at s m args below meth c H locs 0 0 (QM_X12_at below args s D ad y (m_taped) (m_size) (m_to) (m_from) (m_kind) (m_number) (m_fault) (m_place) (m_name) (m_happenings) (m_newHappenings) (m_heard) (m_outs) (a_tape) (a_happened) (a_many) (a_sort) (a_one) (a_other) (a_low) (a_high) (a_begins) (a_out) (a_quarrel) res) (F0 m 78 ls []) := by
  obtain ⟨hx, hb, hr, hml, hown, hts, hlocks, hK, hst⟩ := id C0
  have i_X12 : ∀ w ∈ u_ws RX12 TX12 33, w ∈ wsX12_at := by decide +kernel
  have L_181 := hts (.fieldLink RX12 181 "CaseOrderModel" "happenings" "I") (by decide +kernel)
  unfold f_X12_at_l78 at hf
  refine lv_iload_n hx hb dX12_at_78 rfl (lv_at hl 2 rfl) ?_
  refine lv_aload_n hx hb dX12_at_79 rfl (lv_at hl 0 rfl) ?_
  refine g_get hx hb hts i_X12 hown hK hw 0 eR_c0 rfl 12 (by decide) L_181 (fun _ h => h) rfl dX12_at_80 ?_
  refine lv_icmp_ge (tgt := 138) hx hb dX12_at_83 (by decide) (fun c17 => ?_) (fun c17 => ?_)
  · have hf := it_p c17 hf
    exact hexit _ (so hf).symm _ _ _ hw (lv_sub hl [0, 1, 2] rfl)
  · have hf := it_n c17 hf
    refine lv_iconst (v := 0) hx hb dX12_at_86 (by decide) ?_
    refine lv_istore_n (lv' := [(3, .int 0), (0, .ref (ad 0)), (1, .int u1), (2, .int sg)]) hx hb dX12_at_87 rfl hl (by decide) rfl (fun ls hl => ?_)
    refine lv_iconst (v := 0) hx hb dX12_at_88 (by decide) ?_
    refine lv_istore (lv' := [(4, .int 0), (3, .int 0), (0, .ref (ad 0)), (1, .int u1), (2, .int sg)]) hx hb dX12_at_89 hl (by decide) rfl (fun ls hl => ?_)
    obtain ⟨q22, hq22, hf⟩ := bd hf
    refine kl_X12_at_91 C0 gFU _ _ hq22 _ _ _ hw (lv_sub hl [2, 3, 4, 1, 0] rfl) (fun H locs ls hw hl => ?_)
    have hw : Wo D ad (Aw ad 19 s.heap.size) (eR ad y m_thrown m_taped m_size m_to m_from m_kind m_number m_fault m_place m_name m_happenings m_newHappenings m_heard m_outs m_bounds a_tape a_happened a_many a_sort a_one a_other a_low a_high a_begins a_out a_behind a_ahead a_most a_left a_far a_quarrel a_early a_earlyLast) s.heap H locs := hw
    have hl : lv_has ls 5 [(0, .ref (ad 0)), (1, .int u1), (2, .int sg), (3, .int q22.1), (4, .int q22.2)] := hl
    refine lv_iload_n hx hb dX12_at_125 rfl (lv_at hl 3 rfl) ?_
    refine lv_iload_n hx hb dX12_at_126 rfl (lv_at hl 1 rfl) ?_
    refine lv_icmp_ne (tgt := 132) hx hb dX12_at_127 (by decide) (fun c23 => ?_) (fun c23 => ?_)
    · have hf := it_n c23 hf
      refine lv_iinc (v := sg + 1) (lv' := [(2, .int (sg + 1)), (0, .ref (ad 0)), (1, .int u1), (3, .int q22.1), (4, .int q22.2)]) hx hb dX12_at_132 hl (k := 2) rfl rfl (by decide) rfl (fun ls hl => ?_)
      refine lv_goto (tgt := 78) hx hb dX12_at_135 (by decide) ?_
      exact hcont _ (so hf).symm _ _ _ hw (lv_sub hl [1, 2, 0] rfl)
    · have hf := it_p c23 hf
      refine lv_iload_n hx hb dX12_at_130 rfl (lv_at hl 2 rfl) ?_
      obtain rfl := hret _ (so hf).symm
      exact W.iret (v := sg) hx hb hr (fun t ht _ => g_end hw t ht) hw.2.2.2.2 dX12_at_131
set_option maxHeartbeats 4000000 in
theorem kl_X12_at_78 {p : Program} {l : Launch} {e : Env} {s : State} {m : MethodId} {args : Array Value} {below : List Frame} {meth : Method} {c : Code} {D : va_G} {ad : Nat → Nat} {y : Nat → ClassId} (C0 : CXT wsX12_at cX12_at RX12 5 (some .int) D (tyL y) (STR ad) p s m args meth c) {m_thrown : Int32} {m_taped : Int32} {m_size : Int32} {m_to : Int32} {m_from : Int32} {m_kind : Int32} {m_number : Int32} {m_fault : Int32} {m_place : Int32} {m_name : Int64} {m_happenings : Int32} {m_newHappenings : Int32} {m_heard : Int32} {m_outs : Int32} {m_bounds : Int32} {a_tape : Nat → Int32} {a_happened : Nat → Int64} {a_many : Nat → Int32} {a_sort : Nat → Int32} {a_one : Nat → Int32} {a_other : Nat → Int32} {a_low : Nat → Int32} {a_high : Nat → Int32} {a_begins : Nat → Int32} {a_out : Nat → Int32} {a_behind : Nat → Int32} {a_ahead : Nat → Int32} {a_most : Nat → Int32} {a_left : Nat → Int32} {a_far : Nat → Int32} {a_quarrel : Nat → Int32} {a_early : Nat → Int32} {a_earlyLast : Nat → Int32} {u1 : Int32} {res : Int32 × Int32 × Int32 × (Nat → Int32) × (Nat → Int32) × (Nat → Int32) × (Nat → Int32) × (Nat → Int32) × (Nat → Int32) × (Nat → Int32)} : ∀ (n : Nat) (sg : Int32) (q : (Int32) ⊕ (Int32 × Int32 × Int32 × (Nat → Int32) × (Nat → Int32) × (Nat → Int32) × (Nat → Int32) × (Nat → Int32) × (Nat → Int32) × (Nat → Int32))), lp (f_X12_at_l78 m_thrown m_happenings m_heard m_bounds a_many a_sort a_one a_other a_low a_high a_behind a_ahead a_most a_left a_far a_early a_earlyLast u1) n sg = some q → ∀ (H : Heap) (locs : List Loc) (ls : Array Slot), Wo D ad (Aw ad 19 s.heap.size) (eR ad y m_thrown m_taped m_size m_to m_from m_kind m_number m_fault m_place m_name m_happenings m_newHappenings m_heard m_outs m_bounds a_tape a_happened a_many a_sort a_one a_other a_low a_high a_begins a_out a_behind a_ahead a_most a_left a_far a_quarrel a_early a_earlyLast) s.heap H locs → lv_has ls 5 [(0, .ref (ad 0)), (1, .int u1), (2, .int sg)] → (∀ t, q = .inl t → ∀ (H : Heap) (locs : List Loc) (ls : Array Slot), Wo D ad (Aw ad 19 s.heap.size) (eR ad y m_thrown m_taped m_size m_to m_from m_kind m_number m_fault m_place m_name m_happenings m_newHappenings m_heard m_outs m_bounds a_tape a_happened a_many a_sort a_one a_other a_low a_high a_begins a_out a_behind a_ahead a_most a_left a_far a_quarrel a_early a_earlyLast) s.heap H locs → lv_has ls 5 [(0, .ref (ad 0)), (1, .int u1), (2, .int t)] → W p l e rm_X12_at s m args below meth c H locs 0 0 (QM_X12_at below args s D ad y (m_taped) (m_size) (m_to) (m_from) (m_kind) (m_number) (m_fault) (m_place) (m_name) (m_happenings) (m_newHappenings) (m_heard) (m_outs) (a_tape) (a_happened) (a_many) (a_sort) (a_one) (a_other) (a_low) (a_high) (a_begins) (a_out) (a_quarrel) res) (F0 m 138 ls [])) → (∀ r, q = .inr r → r = res) → W p l e rm_X12_at s m args below meth c H locs 0 0 (QM_X12_at below args s D ad y (m_taped) (m_size) (m_to) (m_from) (m_kind) (m_number) (m_fault) (m_place) (m_name) (m_happenings) (m_newHappenings) (m_heard) (m_outs) (a_tape) (a_happened) (a_many) (a_sort) (a_one) (a_other) (a_low) (a_high) (a_begins) (a_out) (a_quarrel) res) (F0 m 78 ls []) := by
  intro n
  induction n with
  | zero => intro sg q hf; exact absurd hf lp_zero
  | succ n ih =>
    intro sg q hf H locs ls hw hl hexit hret
    rcases lp_succ hf with ⟨sg2, h1, h2⟩ | h1
    · exact kw_X12_at_78 C0 h1 hw hl (fun s2 e2 H locs ls hw hl => by cases e2; exact ih _ q h2 H locs ls hw hl hexit hret) (fun t e2 => by cases e2) (fun r e2 => by cases e2)
    · exact kw_X12_at_78 C0 h1 hw hl (fun s2 e2 => by cases e2) (fun t e2 => by cases e2; exact hexit t rfl) (fun r e2 => by cases e2; exact hret r rfl)
set_option maxHeartbeats 4000000 in
set_option maxRecDepth 100000 in
theorem ke_X12_at {p : Program} {l : Launch} {e : Env} {s : State} {m : MethodId} {args : Array Value} {below : List Frame} {meth : Method} {c : Code} {D : va_G} {ad : Nat → Nat} {y : Nat → ClassId} (C0 : CXT wsX12_at cX12_at RX12 5 (some .int) D (tyL y) (STR ad) p s m args meth c) {m_thrown : Int32} {m_taped : Int32} {m_size : Int32} {m_to : Int32} {m_from : Int32} {m_kind : Int32} {m_number : Int32} {m_fault : Int32} {m_place : Int32} {m_name : Int64} {m_happenings : Int32} {m_newHappenings : Int32} {m_heard : Int32} {m_outs : Int32} {m_bounds : Int32} {a_tape : Nat → Int32} {a_happened : Nat → Int64} {a_many : Nat → Int32} {a_sort : Nat → Int32} {a_one : Nat → Int32} {a_other : Nat → Int32} {a_low : Nat → Int32} {a_high : Nat → Int32} {a_begins : Nat → Int32} {a_out : Nat → Int32} {a_behind : Nat → Int32} {a_ahead : Nat → Int32} {a_most : Nat → Int32} {a_left : Nat → Int32} {a_far : Nat → Int32} {a_quarrel : Nat → Int32} {a_early : Nat → Int32} {a_earlyLast : Nat → Int32} {p1 : Int32} {res : Int32 × Int32 × Int32 × (Nat → Int32) × (Nat → Int32) × (Nat → Int32) × (Nat → Int32) × (Nat → Int32) × (Nat → Int32) × (Nat → Int32)} (hf : f_X12_at m_thrown m_happenings m_heard m_bounds a_many a_sort a_one a_other a_low a_high a_behind a_ahead a_most a_left a_far a_early a_earlyLast p1 = some res) {H : Heap} {locs : List Loc} {ls : Array Slot} (hw : Wo D ad (Aw ad 19 s.heap.size) (eR ad y m_thrown m_taped m_size m_to m_from m_kind m_number m_fault m_place m_name m_happenings m_newHappenings m_heard m_outs m_bounds a_tape a_happened a_many a_sort a_one a_other a_low a_high a_begins a_out a_behind a_ahead a_most a_left a_far a_quarrel a_early a_earlyLast) s.heap H locs) (hl : lv_has ls 5 [(0, .ref (ad 0)), (1, .int p1)]) : W p l e rm_X12_at s m args below meth c H locs 0 0 (QM_X12_at below args s D ad y (m_taped) (m_size) (m_to) (m_from) (m_kind) (m_number) (m_fault) (m_place) (m_name) (m_happenings) (m_newHappenings) (m_heard) (m_outs) (a_tape) (a_happened) (a_many) (a_sort) (a_one) (a_other) (a_low) (a_high) (a_begins) (a_out) (a_quarrel) res) (F0 m 0 ls []) := by
  obtain ⟨hx, hb, hr, hml, hown, hts, hlocks, hK, hst⟩ := id C0
  have i_X12 : ∀ w ∈ u_ws RX12 TX12 33, w ∈ wsX12_at := by decide +kernel
  have L_70 := hts (.fieldLink RX12 70 "CaseOrderModel" "thrown" "I") (by decide +kernel)
  have L_181 := hts (.fieldLink RX12 181 "CaseOrderModel" "happenings" "I") (by decide +kernel)
  unfold f_X12_at at hf
  refine lv_aload_n hx hb dX12_at_0 rfl (lv_at hl 0 rfl) ?_
  refine lv_iconst (v := 0) hx hb dX12_at_1 (by decide) ?_
  refine g_put (ty := .int) hx hb hts i_X12 tyX12 tyX12_ok nmX12 hown hK hw 0 eR_c0 rfl 0 (by decide) L_70 (fun _ h => h) rfl (by decide +kernel) rfl rfl (Nat.le_of_ble_eq_true rfl) dX12_at_2 (fun H locs hw => ?_)
  have hw : Wo D ad (Aw ad 19 s.heap.size) (eR ad y 0 m_taped m_size m_to m_from m_kind m_number m_fault m_place m_name m_happenings m_newHappenings m_heard m_outs m_bounds a_tape a_happened a_many a_sort a_one a_other a_low a_high a_begins a_out a_behind a_ahead a_most a_left a_far a_quarrel a_early a_earlyLast) s.heap H locs := hw
  refine lv_iload_n hx hb dX12_at_5 rfl (lv_at hl 1 rfl) ?_
  refine lv_if_lt (tgt := 24) hx hb dX12_at_6 (by decide) (fun c7 => ?_) (fun c7 => ?_)
  · have hf := it_p c7 hf
    refine lv_iconst (v := (-1)) hx hb dX12_at_24 (by decide) ?_
    obtain rfl := so hf
    exact W.iret (v := (-1)) hx hb hr (fun t ht _ => g_end hw t ht) hw.2.2.2.2 dX12_at_25
  · have hf := it_n c7 hf
    refine lv_iload_n hx hb dX12_at_9 rfl (lv_at hl 1 rfl) ?_
    refine lv_aload_n hx hb dX12_at_10 rfl (lv_at hl 0 rfl) ?_
    refine g_get hx hb hts i_X12 hown hK hw 0 eR_c0 rfl 12 (by decide) L_181 (fun _ h => h) rfl dX12_at_11 ?_
    refine lv_icmp_ge (tgt := 24) hx hb dX12_at_14 (by decide) (fun c8 => ?_) (fun c8 => ?_)
    · have hf := it_p c8 hf
      refine lv_iconst (v := (-1)) hx hb dX12_at_24 (by decide) ?_
      obtain rfl := so hf
      exact W.iret (v := (-1)) hx hb hr (fun t ht _ => g_end hw t ht) hw.2.2.2.2 dX12_at_25
    · have hf := it_n c8 hf
      refine lv_aload_n hx hb dX12_at_17 rfl (lv_at hl 0 rfl) ?_
      obtain ⟨q9, hq9, hf⟩ := bd hf
      refine g_Vi (As := []) (rest := []) ⟨hx, hb, hml, hown, hts⟩ (k_X12_agree hq9) (cwV 0 hts gX12_at_X12_agree rfl rfl rfl (by decide +kernel) ⟨Nat.le_of_ble_eq_true rfl, Nat.le_of_ble_eq_true rfl⟩) STR_ok hst hK hw rfl eR_c0 rfl rfl hl.1 rfl (Nat.le_of_ble_eq_true rfl) dX12_at_18 ⟨Nat.zero_le _, Nat.zero_le _⟩ (fun H locs hw => ?_)
      have hw : Wo D ad (Aw ad 19 s.heap.size) (eR ad y q9.2.1 m_taped m_size m_to m_from m_kind m_number m_fault m_place m_name m_happenings m_newHappenings m_heard m_outs q9.2.2.1 a_tape a_happened a_many a_sort a_one a_other a_low a_high a_begins a_out q9.2.2.2.1 q9.2.2.2.2.1 q9.2.2.2.2.2.1 q9.2.2.2.2.2.2.1 q9.2.2.2.2.2.2.2 a_quarrel a_early a_earlyLast) s.heap H locs := hw
      refine lv_if_ne (tgt := 26) hx hb dX12_at_21 (by decide) (fun c10 => ?_) (fun c10 => ?_)
      · have hf := it_n c10 hf
        refine lv_iconst (v := 0) hx hb dX12_at_26 (by decide) ?_
        refine lv_istore_n (lv' := [(2, .int 0), (0, .ref (ad 0)), (1, .int p1)]) hx hb dX12_at_27 rfl hl (by decide) rfl (fun ls hl => ?_)
        obtain ⟨q16, hq16, hf⟩ := bd hf
        refine kl_X12_at_28 C0 gFU _ _ hq16 _ _ _ hw (lv_sub hl [1, 2, 0] rfl) (fun H locs ls hw hl => ?_)
        have hw : Wo D ad (Aw ad 19 s.heap.size) (eR ad y q9.2.1 m_taped m_size m_to m_from m_kind m_number m_fault m_place m_name m_happenings m_newHappenings m_heard m_outs q9.2.2.1 a_tape a_happened a_many a_sort a_one a_other a_low a_high a_begins a_out q9.2.2.2.1 q9.2.2.2.2.1 q9.2.2.2.2.2.1 q9.2.2.2.2.2.2.1 q16.2.1 a_quarrel q16.2.2.1 q16.2.2.2) s.heap H locs := hw
        have hl : lv_has ls 5 [(0, .ref (ad 0)), (1, .int p1), (2, .int q16.1)] := hl
        refine lv_iconst (v := 0) hx hb dX12_at_76 (by decide) ?_
        refine lv_istore_n (lv' := [(2, .int 0), (0, .ref (ad 0)), (1, .int p1)]) hx hb dX12_at_77 rfl hl (by decide) rfl (fun ls hl => ?_)
        obtain ⟨q24, hq24, hf⟩ := bd hf
        refine kl_X12_at_78 C0 gFU _ _ hq24 _ _ _ hw (lv_sub hl [1, 2, 0] rfl) (fun t25 et25 H locs ls hw hl => ?_) (fun r26 er26 => ?_)
        · rw [et25] at hf
          have hf := el_l hf
          have hw : Wo D ad (Aw ad 19 s.heap.size) (eR ad y q9.2.1 m_taped m_size m_to m_from m_kind m_number m_fault m_place m_name m_happenings m_newHappenings m_heard m_outs q9.2.2.1 a_tape a_happened a_many a_sort a_one a_other a_low a_high a_begins a_out q9.2.2.2.1 q9.2.2.2.2.1 q9.2.2.2.2.2.1 q9.2.2.2.2.2.2.1 q16.2.1 a_quarrel q16.2.2.1 q16.2.2.2) s.heap H locs := hw
          have hl : lv_has ls 5 [(0, .ref (ad 0)), (1, .int p1), (2, .int t25)] := hl
          refine lv_iconst (v := (-1)) hx hb dX12_at_138 (by decide) ?_
          obtain rfl := so hf
          exact W.iret (v := (-1)) hx hb hr (fun t ht _ => g_end hw t ht) hw.2.2.2.2 dX12_at_139
        · rw [er26] at hf
          have hf := el_r hf
          exact so hf
      · have hf := it_p c10 hf
        refine lv_iconst (v := (-1)) hx hb dX12_at_24 (by decide) ?_
        obtain rfl := so hf
        exact W.iret (v := (-1)) hx hb hr (fun t ht _ => g_end hw t ht) hw.2.2.2.2 dX12_at_25
set_option maxHeartbeats 4000000 in
theorem k_X12_at {l : Launch} {D : va_G} {ad : Nat → Nat} {y : Nat → ClassId} {m_thrown : Int32} {m_taped : Int32} {m_size : Int32} {m_to : Int32} {m_from : Int32} {m_kind : Int32} {m_number : Int32} {m_fault : Int32} {m_place : Int32} {m_name : Int64} {m_happenings : Int32} {m_newHappenings : Int32} {m_heard : Int32} {m_outs : Int32} {m_bounds : Int32} {a_tape : Nat → Int32} {a_happened : Nat → Int64} {a_many : Nat → Int32} {a_sort : Nat → Int32} {a_one : Nat → Int32} {a_other : Nat → Int32} {a_low : Nat → Int32} {a_high : Nat → Int32} {a_begins : Nat → Int32} {a_out : Nat → Int32} {a_behind : Nat → Int32} {a_ahead : Nat → Int32} {a_most : Nat → Int32} {a_left : Nat → Int32} {a_far : Nat → Int32} {a_quarrel : Nat → Int32} {a_early : Nat → Int32} {a_earlyLast : Nat → Int32} {p1 : Int32} {res : Int32 × Int32 × Int32 × (Nat → Int32) × (Nat → Int32) × (Nat → Int32) × (Nat → Int32) × (Nat → Int32) × (Nat → Int32) × (Nat → Int32)} (hf : f_X12_at m_thrown m_happenings m_heard m_bounds a_many a_sort a_one a_other a_low a_high a_behind a_ahead a_most a_left a_far a_early a_earlyLast p1 = some res) : CTi l yX12_at wsX12_at rm_X12_at D ad 19 (tyL y) (STR ad) (eR ad y m_thrown m_taped m_size m_to m_from m_kind m_number m_fault m_place m_name m_happenings m_newHappenings m_heard m_outs m_bounds a_tape a_happened a_many a_sort a_one a_other a_low a_high a_begins a_out a_behind a_ahead a_most a_left a_far a_quarrel a_early a_earlyLast) (eR ad y res.2.1 m_taped m_size m_to m_from m_kind m_number m_fault m_place m_name m_happenings m_newHappenings m_heard m_outs res.2.2.1 a_tape a_happened a_many a_sort a_one a_other a_low a_high a_begins a_out res.2.2.2.1 res.2.2.2.2.1 res.2.2.2.2.2.1 res.2.2.2.2.2.2.1 res.2.2.2.2.2.2.2.1 a_quarrel res.2.2.2.2.2.2.2.2.1 res.2.2.2.2.2.2.2.2.2) [.ref (ad 0), .int p1] res.1 := by
  intro sz
  refine Met.ofW (cc := cX12_at) (maxL := 5) (ret := (some .int)) (by decide) rfl ?_
  intro p e s m args below meth c s₁ B hml hv
  obtain ⟨rfl, hsz, hP, hK, hD0, hst⟩ := hv
  subst hsz
  have C0 : CXT wsX12_at cX12_at RX12 5 (some .int) D (tyL y) (STR ad) p s m ([.ref (ad 0), .int p1] : List Value).toArray meth c := ⟨B.exec, B.bytes, B.returns, hml, findClass_of_methodNamed B.named, atoms_spec (ws := wsX12_at) B.pre, B.notSynchronized, hK, hst⟩
  have hw := g_start (n := 19) rfl hP hD0
  have hl := lv_entry ([.ref (ad 0), .int p1]) (n := 5) (Nat.le_of_ble_eq_true rfl)
  rw [lg_entry_eq]
  generalize (lg_sl ([.ref (ad 0), .int p1]) ++ List.replicate (5 - (lg_sl ([.ref (ad 0), .int p1])).length) Slot.unset).toArray = ls at hl ⊢
  have hl : lv_has ls 5 [(0, .ref (ad 0)), (1, .int p1)] := hl
  exact ke_X12_at C0 hf hw hl
abbrev rm_X12_sayings : Room := { frames := 1, cells := 0, slots := 0, locals := 21 }
abbrev QM_X12_sayings (below : List Frame) (args : Array Value) (s : State) (D : va_G) (ad : Nat → Nat) (y : Nat → ClassId) (m_taped : Int32) (m_size : Int32) (m_to : Int32) (m_from : Int32) (m_kind : Int32) (m_number : Int32) (m_fault : Int32) (m_place : Int32) (m_name : Int64) (m_happenings : Int32) (m_newHappenings : Int32) (m_heard : Int32) (m_outs : Int32) (m_bounds : Int32) (a_tape : Nat → Int32) (a_happened : Nat → Int64) (a_many : Nat → Int32) (a_sort : Nat → Int32) (a_one : Nat → Int32) (a_other : Nat → Int32) (a_low : Nat → Int32) (a_high : Nat → Int32) (a_begins : Nat → Int32) (a_out : Nat → Int32) (a_behind : Nat → Int32) (a_ahead : Nat → Int32) (a_most : Nat → Int32) (a_left : Nat → Int32) (a_far : Nat → Int32) (a_quarrel : Nat → Int32) (a_early : Nat → Int32) (a_earlyLast : Nat → Int32) (res : Int32 × Int32) : State → Prop := MQ below (va_Qi (fun x (_ : Unit) => x = res.1) (fun _ t => va_P D vwCl (wls ad (eR ad y res.2 m_taped m_size m_to m_from m_kind m_number m_fault m_place m_name m_happenings m_newHappenings m_heard m_outs m_bounds a_tape a_happened a_many a_sort a_one a_other a_low a_high a_begins a_out a_behind a_ahead a_most a_left a_far a_quarrel a_early a_earlyLast)) t.heap) (Aw ad 19 s.heap.size)) args s 0 0 (Aw ad 19 s.heap.size)
set_option maxHeartbeats 4000000 in
set_option maxRecDepth 100000 in
theorem ke_X12_sayings {p : Program} {l : Launch} {e : Env} {s : State} {m : MethodId} {args : Array Value} {below : List Frame} {meth : Method} {c : Code} {D : va_G} {ad : Nat → Nat} {y : Nat → ClassId} (C0 : CXT wsX12_sayings cX12_sayings RX12 2 (some .int) D (tyL y) (STR ad) p s m args meth c) {m_thrown : Int32} {m_taped : Int32} {m_size : Int32} {m_to : Int32} {m_from : Int32} {m_kind : Int32} {m_number : Int32} {m_fault : Int32} {m_place : Int32} {m_name : Int64} {m_happenings : Int32} {m_newHappenings : Int32} {m_heard : Int32} {m_outs : Int32} {m_bounds : Int32} {a_tape : Nat → Int32} {a_happened : Nat → Int64} {a_many : Nat → Int32} {a_sort : Nat → Int32} {a_one : Nat → Int32} {a_other : Nat → Int32} {a_low : Nat → Int32} {a_high : Nat → Int32} {a_begins : Nat → Int32} {a_out : Nat → Int32} {a_behind : Nat → Int32} {a_ahead : Nat → Int32} {a_most : Nat → Int32} {a_left : Nat → Int32} {a_far : Nat → Int32} {a_quarrel : Nat → Int32} {a_early : Nat → Int32} {a_earlyLast : Nat → Int32} {p1 : Int32} {res : Int32 × Int32} (hf : f_X12_sayings m_thrown a_many p1 = some res) {H : Heap} {locs : List Loc} {ls : Array Slot} (hw : Wo D ad (Aw ad 19 s.heap.size) (eR ad y m_thrown m_taped m_size m_to m_from m_kind m_number m_fault m_place m_name m_happenings m_newHappenings m_heard m_outs m_bounds a_tape a_happened a_many a_sort a_one a_other a_low a_high a_begins a_out a_behind a_ahead a_most a_left a_far a_quarrel a_early a_earlyLast) s.heap H locs) (hl : lv_has ls 2 [(0, .ref (ad 0)), (1, .int p1)]) : W p l e rm_X12_sayings s m args below meth c H locs 0 0 (QM_X12_sayings below args s D ad y (m_taped) (m_size) (m_to) (m_from) (m_kind) (m_number) (m_fault) (m_place) (m_name) (m_happenings) (m_newHappenings) (m_heard) (m_outs) (m_bounds) (a_tape) (a_happened) (a_many) (a_sort) (a_one) (a_other) (a_low) (a_high) (a_begins) (a_out) (a_behind) (a_ahead) (a_most) (a_left) (a_far) (a_quarrel) (a_early) (a_earlyLast) res) (F0 m 0 ls []) := by
  obtain ⟨hx, hb, hr, hml, hown, hts, hlocks, hK, hst⟩ := id C0
  have i_X12 : ∀ w ∈ u_ws RX12 TX12 33, w ∈ wsX12_sayings := by decide +kernel
  have L_70 := hts (.fieldLink RX12 70 "CaseOrderModel" "thrown" "I") (by decide +kernel)
  have L_17 := hts (.fieldLink RX12 17 "CaseOrderModel" "many" "[I") (by decide +kernel)
  unfold f_X12_sayings at hf
  refine lv_iload_n hx hb dX12_sayings_0 rfl (lv_at hl 1 rfl) ?_
  obtain ⟨q4, hq4, hf⟩ := bd hf
  refine g_Si (As := [.int p1]) (rest := []) ⟨hx, hb, hml, hown, hts⟩ (k_X12_isTeller hq4) (va_cwS 1 hts gX12_sayings_X12_isTeller rfl rfl rfl (by decide +kernel) ⟨Nat.le_of_ble_eq_true rfl, Nat.le_of_ble_eq_true rfl⟩) STR_ok hst hK hw rfl rfl hl.1 rfl (Nat.le_of_ble_eq_true rfl) dX12_sayings_1 ⟨Nat.zero_le _, Nat.zero_le _⟩ (fun H locs hw => ?_)
  refine lv_if_ne (tgt := 13) hx hb dX12_sayings_4 (by decide) (fun c5 => ?_) (fun c5 => ?_)
  · have hf := it_n c5 hf
    refine lv_aload_n hx hb dX12_sayings_13 rfl (lv_at hl 0 rfl) ?_
    refine lv_iconst (v := 0) hx hb dX12_sayings_14 (by decide) ?_
    refine g_put (ty := .int) hx hb hts i_X12 tyX12 tyX12_ok nmX12 hown hK hw 0 eR_c0 rfl 0 (by decide) L_70 (fun _ h => h) rfl (by decide +kernel) rfl rfl (Nat.le_of_ble_eq_true rfl) dX12_sayings_15 (fun H locs hw => ?_)
    have hw : Wo D ad (Aw ad 19 s.heap.size) (eR ad y 0 m_taped m_size m_to m_from m_kind m_number m_fault m_place m_name m_happenings m_newHappenings m_heard m_outs m_bounds a_tape a_happened a_many a_sort a_one a_other a_low a_high a_begins a_out a_behind a_ahead a_most a_left a_far a_quarrel a_early a_earlyLast) s.heap H locs := hw
    refine lv_aload_n hx hb dX12_sayings_18 rfl (lv_at hl 0 rfl) ?_
    refine g_get hx hb hts i_X12 hown hK hw 0 eR_c0 rfl 14 (by decide) L_17 (fun _ h => h) rfl dX12_sayings_19 ?_
    refine lv_iload_n hx hb dX12_sayings_22 rfl (lv_at hl 1 rfl) ?_
    obtain ⟨g6, hf⟩ := gIn_some hf
    refine g_iald hx hb hK hw 3 1 eR_c3 rfl g6 dX12_sayings_23 ?_
    obtain rfl := so hf
    exact W.iret (v := (a_many (Int32.toNatClampNeg p1))) hx hb hr (fun t ht _ => g_end hw t ht) hw.2.2.2.2 dX12_sayings_24
  · have hf := it_p c5 hf
    refine lv_aload_n hx hb dX12_sayings_7 rfl (lv_at hl 0 rfl) ?_
    refine lv_iconst (v := 1) hx hb dX12_sayings_8 (by decide) ?_
    obtain ⟨q7, hq7, hf⟩ := bd hf
    refine g_Vi (As := [.int 1]) (rest := []) ⟨hx, hb, hml, hown, hts⟩ (k_X12_refuse hq7) (cwV 1 hts gX12_sayings_X12_refuse rfl rfl rfl (by decide +kernel) ⟨Nat.le_of_ble_eq_true rfl, Nat.le_of_ble_eq_true rfl⟩) STR_ok hst hK hw rfl eR_c0 rfl rfl hl.1 rfl (Nat.le_of_ble_eq_true rfl) dX12_sayings_9 ⟨Nat.zero_le _, Nat.zero_le _⟩ (fun H locs hw => ?_)
    have hw : Wo D ad (Aw ad 19 s.heap.size) (eR ad y q7.2 m_taped m_size m_to m_from m_kind m_number m_fault m_place m_name m_happenings m_newHappenings m_heard m_outs m_bounds a_tape a_happened a_many a_sort a_one a_other a_low a_high a_begins a_out a_behind a_ahead a_most a_left a_far a_quarrel a_early a_earlyLast) s.heap H locs := hw
    obtain rfl := so hf
    exact W.iret (v := q7.1) hx hb hr (fun t ht _ => g_end hw t ht) hw.2.2.2.2 dX12_sayings_12
set_option maxHeartbeats 4000000 in
theorem k_X12_sayings {l : Launch} {D : va_G} {ad : Nat → Nat} {y : Nat → ClassId} {m_thrown : Int32} {m_taped : Int32} {m_size : Int32} {m_to : Int32} {m_from : Int32} {m_kind : Int32} {m_number : Int32} {m_fault : Int32} {m_place : Int32} {m_name : Int64} {m_happenings : Int32} {m_newHappenings : Int32} {m_heard : Int32} {m_outs : Int32} {m_bounds : Int32} {a_tape : Nat → Int32} {a_happened : Nat → Int64} {a_many : Nat → Int32} {a_sort : Nat → Int32} {a_one : Nat → Int32} {a_other : Nat → Int32} {a_low : Nat → Int32} {a_high : Nat → Int32} {a_begins : Nat → Int32} {a_out : Nat → Int32} {a_behind : Nat → Int32} {a_ahead : Nat → Int32} {a_most : Nat → Int32} {a_left : Nat → Int32} {a_far : Nat → Int32} {a_quarrel : Nat → Int32} {a_early : Nat → Int32} {a_earlyLast : Nat → Int32} {p1 : Int32} {res : Int32 × Int32} (hf : f_X12_sayings m_thrown a_many p1 = some res) : CTi l yX12_sayings wsX12_sayings rm_X12_sayings D ad 19 (tyL y) (STR ad) (eR ad y m_thrown m_taped m_size m_to m_from m_kind m_number m_fault m_place m_name m_happenings m_newHappenings m_heard m_outs m_bounds a_tape a_happened a_many a_sort a_one a_other a_low a_high a_begins a_out a_behind a_ahead a_most a_left a_far a_quarrel a_early a_earlyLast) (eR ad y res.2 m_taped m_size m_to m_from m_kind m_number m_fault m_place m_name m_happenings m_newHappenings m_heard m_outs m_bounds a_tape a_happened a_many a_sort a_one a_other a_low a_high a_begins a_out a_behind a_ahead a_most a_left a_far a_quarrel a_early a_earlyLast) [.ref (ad 0), .int p1] res.1 := by
  intro sz
  refine Met.ofW (cc := cX12_sayings) (maxL := 2) (ret := (some .int)) (by decide) rfl ?_
  intro p e s m args below meth c s₁ B hml hv
  obtain ⟨rfl, hsz, hP, hK, hD0, hst⟩ := hv
  subst hsz
  have C0 : CXT wsX12_sayings cX12_sayings RX12 2 (some .int) D (tyL y) (STR ad) p s m ([.ref (ad 0), .int p1] : List Value).toArray meth c := ⟨B.exec, B.bytes, B.returns, hml, findClass_of_methodNamed B.named, atoms_spec (ws := wsX12_sayings) B.pre, B.notSynchronized, hK, hst⟩
  have hw := g_start (n := 19) rfl hP hD0
  have hl := lv_entry ([.ref (ad 0), .int p1]) (n := 2) (Nat.le_of_ble_eq_true rfl)
  rw [lg_entry_eq]
  generalize (lg_sl ([.ref (ad 0), .int p1]) ++ List.replicate (2 - (lg_sl ([.ref (ad 0), .int p1])).length) Slot.unset).toArray = ls at hl ⊢
  have hl : lv_has ls 2 [(0, .ref (ad 0)), (1, .int p1)] := hl
  exact ke_X12_sayings C0 hf hw hl
abbrev rm_X12_count : Room := { frames := 0, cells := 0, slots := 0, locals := 0 }
abbrev QM_X12_count (below : List Frame) (args : Array Value) (s : State) (D : va_G) (ad : Nat → Nat) (y : Nat → ClassId) (m_taped : Int32) (m_size : Int32) (m_to : Int32) (m_from : Int32) (m_kind : Int32) (m_number : Int32) (m_fault : Int32) (m_place : Int32) (m_name : Int64) (m_happenings : Int32) (m_newHappenings : Int32) (m_heard : Int32) (m_outs : Int32) (m_bounds : Int32) (a_tape : Nat → Int32) (a_happened : Nat → Int64) (a_many : Nat → Int32) (a_sort : Nat → Int32) (a_one : Nat → Int32) (a_other : Nat → Int32) (a_low : Nat → Int32) (a_high : Nat → Int32) (a_begins : Nat → Int32) (a_out : Nat → Int32) (a_behind : Nat → Int32) (a_ahead : Nat → Int32) (a_most : Nat → Int32) (a_left : Nat → Int32) (a_far : Nat → Int32) (a_quarrel : Nat → Int32) (a_early : Nat → Int32) (a_earlyLast : Nat → Int32) (res : Int32 × Int32) : State → Prop := MQ below (va_Qi (fun x (_ : Unit) => x = res.1) (fun _ t => va_P D vwCl (wls ad (eR ad y res.2 m_taped m_size m_to m_from m_kind m_number m_fault m_place m_name m_happenings m_newHappenings m_heard m_outs m_bounds a_tape a_happened a_many a_sort a_one a_other a_low a_high a_begins a_out a_behind a_ahead a_most a_left a_far a_quarrel a_early a_earlyLast)) t.heap) (Aw ad 19 s.heap.size)) args s 0 0 (Aw ad 19 s.heap.size)
set_option maxHeartbeats 4000000 in
set_option maxRecDepth 100000 in
theorem kw_X12_count_9 {p : Program} {l : Launch} {e : Env} {s : State} {m : MethodId} {args : Array Value} {below : List Frame} {meth : Method} {c : Code} {D : va_G} {ad : Nat → Nat} {y : Nat → ClassId} (C0 : CXT wsX12_count cX12_count RX12 4 (some .int) D (tyL y) (STR ad) p s m args meth c) {m_thrown : Int32} {m_taped : Int32} {m_size : Int32} {m_to : Int32} {m_from : Int32} {m_kind : Int32} {m_number : Int32} {m_fault : Int32} {m_place : Int32} {m_name : Int64} {m_happenings : Int32} {m_newHappenings : Int32} {m_heard : Int32} {m_outs : Int32} {m_bounds : Int32} {a_tape : Nat → Int32} {a_happened : Nat → Int64} {a_many : Nat → Int32} {a_sort : Nat → Int32} {a_one : Nat → Int32} {a_other : Nat → Int32} {a_low : Nat → Int32} {a_high : Nat → Int32} {a_begins : Nat → Int32} {a_out : Nat → Int32} {a_behind : Nat → Int32} {a_ahead : Nat → Int32} {a_most : Nat → Int32} {a_left : Nat → Int32} {a_far : Nat → Int32} {a_quarrel : Nat → Int32} {a_early : Nat → Int32} {a_earlyLast : Nat → Int32} {u1 : Int32} {res : Int32 × Int32} {sg : Int32 × Int32} {o : (Int32 × Int32) ⊕ (Int32 × Int32)} (hf : f_X12_count_l9 m_thrown m_taped m_happenings m_heard m_outs a_many u1 sg = some o) {H : Heap} {locs : List Loc} {ls : Array Slot} (hw : Wo D ad (Aw ad 19 s.heap.size) (eR ad y m_thrown m_taped m_size m_to m_from m_kind m_number m_fault m_place m_name m_happenings m_newHappenings m_heard m_outs m_bounds a_tape a_happened a_many a_sort a_one a_other a_low a_high a_begins a_out a_behind a_ahead a_most a_left a_far a_quarrel a_early a_earlyLast) s.heap H locs) (hl : lv_has ls 4 [(0, .ref (ad 0)), (1, .int u1), (2, .int sg.1), (3, .int sg.2)]) (hcont : ∀ s2, o = .inl s2 → ∀ (H : Heap) (locs : List Loc) (ls : Array Slot), Wo D ad (Aw ad 19 s.heap.size) (eR ad y m_thrown m_taped m_size m_to m_from m_kind m_number m_fault m_place m_name m_happenings m_newHappenings m_heard m_outs m_bounds a_tape a_happened a_many a_sort a_one a_other a_low a_high a_begins a_out a_behind a_ahead a_most a_left a_far a_quarrel a_early a_earlyLast) s.heap H locs → lv_has ls 4 [(0, .ref (ad 0)), (1, .int u1), (2, .int s2.1), (3, .int s2.2)] → W p l e rm_X12_count s m args below meth c H locs 0 0 (QM_X12_count below args s D ad y (m_taped) (m_size) (m_to) (m_from) (m_kind) (m_number) (m_fault) (m_place) (m_name) (m_happenings) (m_newHappenings) (m_heard) (m_outs) (m_bounds) (a_tape) (a_happened) (a_many) (a_sort) (a_one) (a_other) (a_low) (a_high) (a_begins) (a_out) (a_behind) (a_ahead) (a_most) (a_left) (a_far) (a_quarrel) (a_early) (a_earlyLast) res) (F0 m 9 ls [])) (hexit : ∀ t, o = .inr t → ∀ (H : Heap) (locs : List Loc) (ls : Array Slot), Wo D ad (Aw ad 19 s.heap.size) (eR ad y m_thrown m_taped m_size m_to m_from m_kind m_number m_fault m_place m_name m_happenings m_newHappenings m_heard m_outs m_bounds a_tape a_happened a_many a_sort a_one a_other a_low a_high a_begins a_out a_behind a_ahead a_most a_left a_far a_quarrel a_early a_earlyLast) s.heap H locs → lv_has ls 4 [(0, .ref (ad 0)), (1, .int u1), (2, .int t.1), (3, .int t.2)] → W p l e rm_X12_count s m args below meth c H locs 0 0 (QM_X12_count below args s D ad y (m_taped) (m_size) (m_to) (m_from) (m_kind) (m_number) (m_fault) (m_place) (m_name) (m_happenings) (m_newHappenings) (m_heard) (m_outs) (m_bounds) (a_tape) (a_happened) (a_many) (a_sort) (a_one) (a_other) (a_low) (a_high) (a_begins) (a_out) (a_behind) (a_ahead) (a_most) (a_left) (a_far) (a_quarrel) (a_early) (a_earlyLast) res) (F0 m 30 ls [])) : W p l e rm_X12_count s m args below meth c H locs 0 0 (QM_X12_count below args s D ad y (m_taped) (m_size) (m_to) (m_from) (m_kind) (m_number) (m_fault) (m_place) (m_name) (m_happenings) (m_newHappenings) (m_heard) (m_outs) (m_bounds) (a_tape) (a_happened) (a_many) (a_sort) (a_one) (a_other) (a_low) (a_high) (a_begins) (a_out) (a_behind) (a_ahead) (a_most) (a_left) (a_far) (a_quarrel) (a_early) (a_earlyLast) res) (F0 m 9 ls []) := by
  obtain ⟨hx, hb, hr, hml, hown, hts, hlocks, hK, hst⟩ := id C0
  have i_X12 : ∀ w ∈ u_ws RX12 TX12 33, w ∈ wsX12_count := by decide +kernel
  have L_17 := hts (.fieldLink RX12 17 "CaseOrderModel" "many" "[I") (by decide +kernel)
  unfold f_X12_count_l9 at hf
  refine lv_iload_n hx hb dX12_count_9 rfl (lv_at hl 3 rfl) ?_
  refine lv_bipush (v := 6) hx hb dX12_count_10 (by decide) ?_
  refine lv_icmp_ge (tgt := 30) hx hb dX12_count_12 (by decide) (fun c2 => ?_) (fun c2 => ?_)
  · have hf := it_p c2 hf
    exact hexit _ (so hf).symm _ _ _ hw (lv_sub hl [0, 1, 2, 3] rfl)
  · have hf := it_n c2 hf
    refine lv_iload_n hx hb dX12_count_15 rfl (lv_at hl 2 rfl) ?_
    refine lv_aload_n hx hb dX12_count_16 rfl (lv_at hl 0 rfl) ?_
    refine g_get hx hb hts i_X12 hown hK hw 0 eR_c0 rfl 14 (by decide) L_17 (fun _ h => h) rfl dX12_count_17 ?_
    refine lv_iload_n hx hb dX12_count_20 rfl (lv_at hl 3 rfl) ?_
    obtain ⟨g3, hf⟩ := gIn_some hf
    refine g_iald hx hb hK hw 3 1 eR_c3 rfl g3 dX12_count_21 ?_
    refine lv_iadd hx hb dX12_count_22 ?_
    refine lv_istore_n (lv' := [(2, .int (sg.1 + (a_many (Int32.toNatClampNeg sg.2)))), (0, .ref (ad 0)), (1, .int u1), (3, .int sg.2)]) hx hb dX12_count_23 rfl hl (by decide) rfl (fun ls hl => ?_)
    refine lv_iinc (v := sg.2 + 1) (lv' := [(3, .int (sg.2 + 1)), (2, .int (sg.1 + (a_many (Int32.toNatClampNeg sg.2)))), (0, .ref (ad 0)), (1, .int u1)]) hx hb dX12_count_24 hl (k := 3) rfl rfl (by decide) rfl (fun ls hl => ?_)
    refine lv_goto (tgt := 9) hx hb dX12_count_27 (by decide) ?_
    exact hcont _ (so hf).symm _ _ _ hw (lv_sub hl [2, 3, 1, 0] rfl)
set_option maxHeartbeats 4000000 in
theorem kl_X12_count_9 {p : Program} {l : Launch} {e : Env} {s : State} {m : MethodId} {args : Array Value} {below : List Frame} {meth : Method} {c : Code} {D : va_G} {ad : Nat → Nat} {y : Nat → ClassId} (C0 : CXT wsX12_count cX12_count RX12 4 (some .int) D (tyL y) (STR ad) p s m args meth c) {m_thrown : Int32} {m_taped : Int32} {m_size : Int32} {m_to : Int32} {m_from : Int32} {m_kind : Int32} {m_number : Int32} {m_fault : Int32} {m_place : Int32} {m_name : Int64} {m_happenings : Int32} {m_newHappenings : Int32} {m_heard : Int32} {m_outs : Int32} {m_bounds : Int32} {a_tape : Nat → Int32} {a_happened : Nat → Int64} {a_many : Nat → Int32} {a_sort : Nat → Int32} {a_one : Nat → Int32} {a_other : Nat → Int32} {a_low : Nat → Int32} {a_high : Nat → Int32} {a_begins : Nat → Int32} {a_out : Nat → Int32} {a_behind : Nat → Int32} {a_ahead : Nat → Int32} {a_most : Nat → Int32} {a_left : Nat → Int32} {a_far : Nat → Int32} {a_quarrel : Nat → Int32} {a_early : Nat → Int32} {a_earlyLast : Nat → Int32} {u1 : Int32} {res : Int32 × Int32} : ∀ (n : Nat) (sg : Int32 × Int32) (q : Int32 × Int32), lp (f_X12_count_l9 m_thrown m_taped m_happenings m_heard m_outs a_many u1) n sg = some q → ∀ (H : Heap) (locs : List Loc) (ls : Array Slot), Wo D ad (Aw ad 19 s.heap.size) (eR ad y m_thrown m_taped m_size m_to m_from m_kind m_number m_fault m_place m_name m_happenings m_newHappenings m_heard m_outs m_bounds a_tape a_happened a_many a_sort a_one a_other a_low a_high a_begins a_out a_behind a_ahead a_most a_left a_far a_quarrel a_early a_earlyLast) s.heap H locs → lv_has ls 4 [(0, .ref (ad 0)), (1, .int u1), (2, .int sg.1), (3, .int sg.2)] → (∀ (H : Heap) (locs : List Loc) (ls : Array Slot), Wo D ad (Aw ad 19 s.heap.size) (eR ad y m_thrown m_taped m_size m_to m_from m_kind m_number m_fault m_place m_name m_happenings m_newHappenings m_heard m_outs m_bounds a_tape a_happened a_many a_sort a_one a_other a_low a_high a_begins a_out a_behind a_ahead a_most a_left a_far a_quarrel a_early a_earlyLast) s.heap H locs → lv_has ls 4 [(0, .ref (ad 0)), (1, .int u1), (2, .int q.1), (3, .int q.2)] → W p l e rm_X12_count s m args below meth c H locs 0 0 (QM_X12_count below args s D ad y (m_taped) (m_size) (m_to) (m_from) (m_kind) (m_number) (m_fault) (m_place) (m_name) (m_happenings) (m_newHappenings) (m_heard) (m_outs) (m_bounds) (a_tape) (a_happened) (a_many) (a_sort) (a_one) (a_other) (a_low) (a_high) (a_begins) (a_out) (a_behind) (a_ahead) (a_most) (a_left) (a_far) (a_quarrel) (a_early) (a_earlyLast) res) (F0 m 30 ls [])) → W p l e rm_X12_count s m args below meth c H locs 0 0 (QM_X12_count below args s D ad y (m_taped) (m_size) (m_to) (m_from) (m_kind) (m_number) (m_fault) (m_place) (m_name) (m_happenings) (m_newHappenings) (m_heard) (m_outs) (m_bounds) (a_tape) (a_happened) (a_many) (a_sort) (a_one) (a_other) (a_low) (a_high) (a_begins) (a_out) (a_behind) (a_ahead) (a_most) (a_left) (a_far) (a_quarrel) (a_early) (a_earlyLast) res) (F0 m 9 ls []) := by
  intro n
  induction n with
  | zero => intro sg q hf; exact absurd hf lp_zero
  | succ n ih =>
    intro sg q hf H locs ls hw hl hexit
    rcases lp_succ hf with ⟨sg2, h1, h2⟩ | h1
    · exact kw_X12_count_9 C0 h1 hw hl (fun s2 e2 H locs ls hw hl => by cases e2; exact ih _ q h2 H locs ls hw hl hexit) (fun t e2 => by cases e2)
    · exact kw_X12_count_9 C0 h1 hw hl (fun s2 e2 => by cases e2) (fun t e2 => by cases e2; exact hexit)
set_option maxHeartbeats 4000000 in
set_option maxRecDepth 100000 in
theorem ke_X12_count {p : Program} {l : Launch} {e : Env} {s : State} {m : MethodId} {args : Array Value} {below : List Frame} {meth : Method} {c : Code} {D : va_G} {ad : Nat → Nat} {y : Nat → ClassId} (C0 : CXT wsX12_count cX12_count RX12 4 (some .int) D (tyL y) (STR ad) p s m args meth c) {m_thrown : Int32} {m_taped : Int32} {m_size : Int32} {m_to : Int32} {m_from : Int32} {m_kind : Int32} {m_number : Int32} {m_fault : Int32} {m_place : Int32} {m_name : Int64} {m_happenings : Int32} {m_newHappenings : Int32} {m_heard : Int32} {m_outs : Int32} {m_bounds : Int32} {a_tape : Nat → Int32} {a_happened : Nat → Int64} {a_many : Nat → Int32} {a_sort : Nat → Int32} {a_one : Nat → Int32} {a_other : Nat → Int32} {a_low : Nat → Int32} {a_high : Nat → Int32} {a_begins : Nat → Int32} {a_out : Nat → Int32} {a_behind : Nat → Int32} {a_ahead : Nat → Int32} {a_most : Nat → Int32} {a_left : Nat → Int32} {a_far : Nat → Int32} {a_quarrel : Nat → Int32} {a_early : Nat → Int32} {a_earlyLast : Nat → Int32} {p1 : Int32} {res : Int32 × Int32} (hf : f_X12_count m_thrown m_taped m_happenings m_heard m_outs a_many p1 = some res) {H : Heap} {locs : List Loc} {ls : Array Slot} (hw : Wo D ad (Aw ad 19 s.heap.size) (eR ad y m_thrown m_taped m_size m_to m_from m_kind m_number m_fault m_place m_name m_happenings m_newHappenings m_heard m_outs m_bounds a_tape a_happened a_many a_sort a_one a_other a_low a_high a_begins a_out a_behind a_ahead a_most a_left a_far a_quarrel a_early a_earlyLast) s.heap H locs) (hl : lv_has ls 4 [(0, .ref (ad 0)), (1, .int p1)]) : W p l e rm_X12_count s m args below meth c H locs 0 0 (QM_X12_count below args s D ad y (m_taped) (m_size) (m_to) (m_from) (m_kind) (m_number) (m_fault) (m_place) (m_name) (m_happenings) (m_newHappenings) (m_heard) (m_outs) (m_bounds) (a_tape) (a_happened) (a_many) (a_sort) (a_one) (a_other) (a_low) (a_high) (a_begins) (a_out) (a_behind) (a_ahead) (a_most) (a_left) (a_far) (a_quarrel) (a_early) (a_earlyLast) res) (F0 m 0 ls []) := by
  obtain ⟨hx, hb, hr, hml, hown, hts, hlocks, hK, hst⟩ := id C0
  have i_X12 : ∀ w ∈ u_ws RX12 TX12 33, w ∈ wsX12_count := by decide +kernel
  have L_70 := hts (.fieldLink RX12 70 "CaseOrderModel" "thrown" "I") (by decide +kernel)
  have L_181 := hts (.fieldLink RX12 181 "CaseOrderModel" "happenings" "I") (by decide +kernel)
  have L_38 := hts (.fieldLink RX12 38 "CaseOrderModel" "heard" "I") (by decide +kernel)
  have L_73 := hts (.fieldLink RX12 73 "CaseOrderModel" "taped" "I") (by decide +kernel)
  have L_200 := hts (.fieldLink RX12 200 "CaseOrderModel" "outs" "I") (by decide +kernel)
  unfold f_X12_count at hf
  refine lv_aload_n hx hb dX12_count_0 rfl (lv_at hl 0 rfl) ?_
  refine lv_iconst (v := 0) hx hb dX12_count_1 (by decide) ?_
  refine g_put (ty := .int) hx hb hts i_X12 tyX12 tyX12_ok nmX12 hown hK hw 0 eR_c0 rfl 0 (by decide) L_70 (fun _ h => h) rfl (by decide +kernel) rfl rfl (Nat.le_of_ble_eq_true rfl) dX12_count_2 (fun H locs hw => ?_)
  have hw : Wo D ad (Aw ad 19 s.heap.size) (eR ad y 0 m_taped m_size m_to m_from m_kind m_number m_fault m_place m_name m_happenings m_newHappenings m_heard m_outs m_bounds a_tape a_happened a_many a_sort a_one a_other a_low a_high a_begins a_out a_behind a_ahead a_most a_left a_far a_quarrel a_early a_earlyLast) s.heap H locs := hw
  refine lv_iconst (v := 0) hx hb dX12_count_5 (by decide) ?_
  refine lv_istore_n (lv' := [(2, .int 0), (0, .ref (ad 0)), (1, .int p1)]) hx hb dX12_count_6 rfl hl (by decide) rfl (fun ls hl => ?_)
  refine lv_iconst (v := 0) hx hb dX12_count_7 (by decide) ?_
  refine lv_istore_n (lv' := [(3, .int 0), (2, .int 0), (0, .ref (ad 0)), (1, .int p1)]) hx hb dX12_count_8 rfl hl (by decide) rfl (fun ls hl => ?_)
  obtain ⟨q4, hq4, hf⟩ := bd hf
  refine kl_X12_count_9 C0 gFU _ _ hq4 _ _ _ hw (lv_sub hl [2, 3, 1, 0] rfl) (fun H locs ls hw hl => ?_)
  have hw : Wo D ad (Aw ad 19 s.heap.size) (eR ad y 0 m_taped m_size m_to m_from m_kind m_number m_fault m_place m_name m_happenings m_newHappenings m_heard m_outs m_bounds a_tape a_happened a_many a_sort a_one a_other a_low a_high a_begins a_out a_behind a_ahead a_most a_left a_far a_quarrel a_early a_earlyLast) s.heap H locs := hw
  have hl : lv_has ls 4 [(0, .ref (ad 0)), (1, .int p1), (2, .int q4.1), (3, .int q4.2)] := hl
  refine lv_iload_n hx hb dX12_count_30 rfl (lv_at hl 1 rfl) ?_
  by_cases c5 : p1 = 0
  · have hf := it_p c5 hf
    refine lv_tableIn (tgt := 64) hx hb dX12_count_31 (by rw [c5]; decide) (by rw [c5]; decide) (by rw [c5]; rfl) (by decide) ?_
    refine lv_aload_n hx hb dX12_count_64 rfl (lv_at hl 0 rfl) ?_
    refine g_get hx hb hts i_X12 hown hK hw 0 eR_c0 rfl 12 (by decide) L_181 (fun _ h => h) rfl dX12_count_65 ?_
    obtain rfl := so hf
    exact W.iret (v := m_happenings) hx hb hr (fun t ht _ => g_end hw t ht) hw.2.2.2.2 dX12_count_68
  have hf := it_n c5 hf
  by_cases c6 : p1 = 1
  · have hf := it_p c6 hf
    refine lv_tableIn (tgt := 69) hx hb dX12_count_31 (by rw [c6]; decide) (by rw [c6]; decide) (by rw [c6]; rfl) (by decide) ?_
    refine lv_iload_n hx hb dX12_count_69 rfl (lv_at hl 2 rfl) ?_
    obtain rfl := so hf
    exact W.iret (v := q4.1) hx hb hr (fun t ht _ => g_end hw t ht) hw.2.2.2.2 dX12_count_70
  have hf := it_n c6 hf
  by_cases c7 : p1 = 2
  · have hf := it_p c7 hf
    refine lv_tableIn (tgt := 71) hx hb dX12_count_31 (by rw [c7]; decide) (by rw [c7]; decide) (by rw [c7]; rfl) (by decide) ?_
    refine lv_aload_n hx hb dX12_count_71 rfl (lv_at hl 0 rfl) ?_
    refine g_get hx hb hts i_X12 hown hK hw 0 eR_c0 rfl 21 (by decide) L_38 (fun _ h => h) rfl dX12_count_72 ?_
    obtain rfl := so hf
    exact W.iret (v := m_heard) hx hb hr (fun t ht _ => g_end hw t ht) hw.2.2.2.2 dX12_count_75
  have hf := it_n c7 hf
  by_cases c8 : p1 = 3
  · have hf := it_p c8 hf
    refine lv_tableIn (tgt := 76) hx hb dX12_count_31 (by rw [c8]; decide) (by rw [c8]; decide) (by rw [c8]; rfl) (by decide) ?_
    refine lv_aload_n hx hb dX12_count_76 rfl (lv_at hl 0 rfl) ?_
    refine g_get hx hb hts i_X12 hown hK hw 0 eR_c0 rfl 2 (by decide) L_73 (fun _ h => h) rfl dX12_count_77 ?_
    obtain rfl := so hf
    exact W.iret (v := m_taped) hx hb hr (fun t ht _ => g_end hw t ht) hw.2.2.2.2 dX12_count_80
  have hf := it_n c8 hf
  by_cases c9 : p1 = 4
  · have hf := it_p c9 hf
    refine lv_tableIn (tgt := 81) hx hb dX12_count_31 (by rw [c9]; decide) (by rw [c9]; decide) (by rw [c9]; rfl) (by decide) ?_
    refine lv_aload_n hx hb dX12_count_81 rfl (lv_at hl 0 rfl) ?_
    refine g_get hx hb hts i_X12 hown hK hw 0 eR_c0 rfl 23 (by decide) L_200 (fun _ h => h) rfl dX12_count_82 ?_
    obtain rfl := so hf
    exact W.iret (v := m_outs) hx hb hr (fun t ht _ => g_end hw t ht) hw.2.2.2.2 dX12_count_85
  have hf := it_n c9 hf
  refine lv_tableOut (tgt := 86) hx hb dX12_count_31 (by have nc5 := sw_ne c5 (0 : Int) (by decide); have nc6 := sw_ne c6 (1 : Int) (by decide); have nc7 := sw_ne c7 (2 : Int) (by decide); have nc8 := sw_ne c8 (3 : Int) (by decide); have nc9 := sw_ne c9 (4 : Int) (by decide); omega) (by decide) ?_
  refine lv_iconst (v := (-1)) hx hb dX12_count_86 (by decide) ?_
  obtain rfl := so hf
  exact W.iret (v := (-1)) hx hb hr (fun t ht _ => g_end hw t ht) hw.2.2.2.2 dX12_count_87
set_option maxHeartbeats 4000000 in
theorem k_X12_count {l : Launch} {D : va_G} {ad : Nat → Nat} {y : Nat → ClassId} {m_thrown : Int32} {m_taped : Int32} {m_size : Int32} {m_to : Int32} {m_from : Int32} {m_kind : Int32} {m_number : Int32} {m_fault : Int32} {m_place : Int32} {m_name : Int64} {m_happenings : Int32} {m_newHappenings : Int32} {m_heard : Int32} {m_outs : Int32} {m_bounds : Int32} {a_tape : Nat → Int32} {a_happened : Nat → Int64} {a_many : Nat → Int32} {a_sort : Nat → Int32} {a_one : Nat → Int32} {a_other : Nat → Int32} {a_low : Nat → Int32} {a_high : Nat → Int32} {a_begins : Nat → Int32} {a_out : Nat → Int32} {a_behind : Nat → Int32} {a_ahead : Nat → Int32} {a_most : Nat → Int32} {a_left : Nat → Int32} {a_far : Nat → Int32} {a_quarrel : Nat → Int32} {a_early : Nat → Int32} {a_earlyLast : Nat → Int32} {p1 : Int32} {res : Int32 × Int32} (hf : f_X12_count m_thrown m_taped m_happenings m_heard m_outs a_many p1 = some res) : CTi l yX12_count wsX12_count rm_X12_count D ad 19 (tyL y) (STR ad) (eR ad y m_thrown m_taped m_size m_to m_from m_kind m_number m_fault m_place m_name m_happenings m_newHappenings m_heard m_outs m_bounds a_tape a_happened a_many a_sort a_one a_other a_low a_high a_begins a_out a_behind a_ahead a_most a_left a_far a_quarrel a_early a_earlyLast) (eR ad y res.2 m_taped m_size m_to m_from m_kind m_number m_fault m_place m_name m_happenings m_newHappenings m_heard m_outs m_bounds a_tape a_happened a_many a_sort a_one a_other a_low a_high a_begins a_out a_behind a_ahead a_most a_left a_far a_quarrel a_early a_earlyLast) [.ref (ad 0), .int p1] res.1 := by
  intro sz
  refine Met.ofW (cc := cX12_count) (maxL := 4) (ret := (some .int)) (by decide) rfl ?_
  intro p e s m args below meth c s₁ B hml hv
  obtain ⟨rfl, hsz, hP, hK, hD0, hst⟩ := hv
  subst hsz
  have C0 : CXT wsX12_count cX12_count RX12 4 (some .int) D (tyL y) (STR ad) p s m ([.ref (ad 0), .int p1] : List Value).toArray meth c := ⟨B.exec, B.bytes, B.returns, hml, findClass_of_methodNamed B.named, atoms_spec (ws := wsX12_count) B.pre, B.notSynchronized, hK, hst⟩
  have hw := g_start (n := 19) rfl hP hD0
  have hl := lv_entry ([.ref (ad 0), .int p1]) (n := 4) (Nat.le_of_ble_eq_true rfl)
  rw [lg_entry_eq]
  generalize (lg_sl ([.ref (ad 0), .int p1]) ++ List.replicate (4 - (lg_sl ([.ref (ad 0), .int p1])).length) Slot.unset).toArray = ls at hl ⊢
  have hl : lv_has ls 4 [(0, .ref (ad 0)), (1, .int p1)] := hl
  exact ke_X12_count C0 hf hw hl
