abbrev rm_X12_readText : Room := { frames := 6, cells := 0, slots := 0, locals := 132 }
abbrev QM_X12_readText (below : List Frame) (args : Array Value) (s : State) (D : va_G) (ad : Nat → Nat) (y : Nat → ClassId) (m_thrown : Int32) (m_taped : Int32) (m_size : Int32) (m_happenings : Int32) (m_heard : Int32) (m_outs : Int32) (m_bounds : Int32) (a_tape : Nat → Int32) (a_out : Nat → Int32) (a_behind : Nat → Int32) (a_ahead : Nat → Int32) (a_most : Nat → Int32) (a_left : Nat → Int32) (a_far : Nat → Int32) (a_quarrel : Nat → Int32) (a_early : Nat → Int32) (a_earlyLast : Nat → Int32) (res : Int32 × Int32 × Int32 × Int32 × Int32 × Int32 × Int32 × Int64 × Int32 × (Nat → Int64) × (Nat → Int32) × (Nat → Int32) × (Nat → Int32) × (Nat → Int32) × (Nat → Int32) × (Nat → Int32) × (Nat → Int32)) : State → Prop := MQ below (va_Qi (fun x (_ : Unit) => x = res.1) (fun _ t => va_P D vwCl (wls ad (eR ad y m_thrown m_taped m_size res.2.1 res.2.2.1 res.2.2.2.1 res.2.2.2.2.1 res.2.2.2.2.2.1 res.2.2.2.2.2.2.1 res.2.2.2.2.2.2.2.1 m_happenings res.2.2.2.2.2.2.2.2.1 m_heard m_outs m_bounds a_tape res.2.2.2.2.2.2.2.2.2.1 res.2.2.2.2.2.2.2.2.2.2.1 res.2.2.2.2.2.2.2.2.2.2.2.1 res.2.2.2.2.2.2.2.2.2.2.2.2.1 res.2.2.2.2.2.2.2.2.2.2.2.2.2.1 res.2.2.2.2.2.2.2.2.2.2.2.2.2.2.1 res.2.2.2.2.2.2.2.2.2.2.2.2.2.2.2.1 res.2.2.2.2.2.2.2.2.2.2.2.2.2.2.2.2 a_out a_behind a_ahead a_most a_left a_far a_quarrel a_early a_earlyLast)) t.heap) (Aw ad 19 s.heap.size)) args s 0 0 (Aw ad 19 s.heap.size)
set_option maxHeartbeats 4000000 in
set_option maxRecDepth 100000 in
theorem kw_X12_readText_25 {p : Program} {l : Launch} {e : Env} {s : State} {m : MethodId} {args : Array Value} {below : List Frame} {meth : Method} {c : Code} {D : va_G} {ad : Nat → Nat} {y : Nat → ClassId} (C0 : CXT wsX12_readText cX12_readText RX12 1 (some .boolean) D (tyL y) (STR ad) p s m args meth c) {m_thrown : Int32} {m_taped : Int32} {m_size : Int32} {m_happenings : Int32} {m_heard : Int32} {m_outs : Int32} {m_bounds : Int32} {a_tape : Nat → Int32} {a_out : Nat → Int32} {a_behind : Nat → Int32} {a_ahead : Nat → Int32} {a_most : Nat → Int32} {a_left : Nat → Int32} {a_far : Nat → Int32} {a_quarrel : Nat → Int32} {a_early : Nat → Int32} {a_earlyLast : Nat → Int32}  {res : Int32 × Int32 × Int32 × Int32 × Int32 × Int32 × Int32 × Int64 × Int32 × (Nat → Int64) × (Nat → Int32) × (Nat → Int32) × (Nat → Int32) × (Nat → Int32) × (Nat → Int32) × (Nat → Int32) × (Nat → Int32)} {sg : Int32 × Int32 × Int32 × Int32 × Int32 × Int32 × Int64 × Int32 × (Nat → Int64) × (Nat → Int32) × (Nat → Int32) × (Nat → Int32) × (Nat → Int32) × (Nat → Int32) × (Nat → Int32) × (Nat → Int32)} {o : (Int32 × Int32 × Int32 × Int32 × Int32 × Int32 × Int64 × Int32 × (Nat → Int64) × (Nat → Int32) × (Nat → Int32) × (Nat → Int32) × (Nat → Int32) × (Nat → Int32) × (Nat → Int32) × (Nat → Int32)) ⊕ ((Int32 × Int32 × Int32 × Int32 × Int32 × Int32 × Int64 × Int32 × (Nat → Int64) × (Nat → Int32) × (Nat → Int32) × (Nat → Int32) × (Nat → Int32) × (Nat → Int32) × (Nat → Int32) × (Nat → Int32)) ⊕ (Int32 × Int32 × Int32 × Int32 × Int32 × Int32 × Int32 × Int64 × Int32 × (Nat → Int64) × (Nat → Int32) × (Nat → Int32) × (Nat → Int32) × (Nat → Int32) × (Nat → Int32) × (Nat → Int32) × (Nat → Int32)))} (hf : f_X12_readText_l25 m_size m_happenings a_tape sg = some o) {H : Heap} {locs : List Loc} {ls : Array Slot} (hw : Wo D ad (Aw ad 19 s.heap.size) (eR ad y m_thrown m_taped m_size sg.1 sg.2.1 sg.2.2.1 sg.2.2.2.1 sg.2.2.2.2.1 sg.2.2.2.2.2.1 sg.2.2.2.2.2.2.1 m_happenings sg.2.2.2.2.2.2.2.1 m_heard m_outs m_bounds a_tape sg.2.2.2.2.2.2.2.2.1 sg.2.2.2.2.2.2.2.2.2.1 sg.2.2.2.2.2.2.2.2.2.2.1 sg.2.2.2.2.2.2.2.2.2.2.2.1 sg.2.2.2.2.2.2.2.2.2.2.2.2.1 sg.2.2.2.2.2.2.2.2.2.2.2.2.2.1 sg.2.2.2.2.2.2.2.2.2.2.2.2.2.2.1 sg.2.2.2.2.2.2.2.2.2.2.2.2.2.2.2 a_out a_behind a_ahead a_most a_left a_far a_quarrel a_early a_earlyLast) s.heap H locs) (hl : lv_has ls 1 [(0, .ref (ad 0))]) (hcont : ∀ s2, o = .inl s2 → ∀ (H : Heap) (locs : List Loc) (ls : Array Slot), Wo D ad (Aw ad 19 s.heap.size) (eR ad y m_thrown m_taped m_size s2.1 s2.2.1 s2.2.2.1 s2.2.2.2.1 s2.2.2.2.2.1 s2.2.2.2.2.2.1 s2.2.2.2.2.2.2.1 m_happenings s2.2.2.2.2.2.2.2.1 m_heard m_outs m_bounds a_tape s2.2.2.2.2.2.2.2.2.1 s2.2.2.2.2.2.2.2.2.2.1 s2.2.2.2.2.2.2.2.2.2.2.1 s2.2.2.2.2.2.2.2.2.2.2.2.1 s2.2.2.2.2.2.2.2.2.2.2.2.2.1 s2.2.2.2.2.2.2.2.2.2.2.2.2.2.1 s2.2.2.2.2.2.2.2.2.2.2.2.2.2.2.1 s2.2.2.2.2.2.2.2.2.2.2.2.2.2.2.2 a_out a_behind a_ahead a_most a_left a_far a_quarrel a_early a_earlyLast) s.heap H locs → lv_has ls 1 [(0, .ref (ad 0))] → W p l e rm_X12_readText s m args below meth c H locs 0 0 (QM_X12_readText below args s D ad y (m_thrown) (m_taped) (m_size) (m_happenings) (m_heard) (m_outs) (m_bounds) (a_tape) (a_out) (a_behind) (a_ahead) (a_most) (a_left) (a_far) (a_quarrel) (a_early) (a_earlyLast) res) (F0 m 25 ls [])) (hexit : ∀ t, o = .inr (.inl t) → ∀ (H : Heap) (locs : List Loc) (ls : Array Slot), Wo D ad (Aw ad 19 s.heap.size) (eR ad y m_thrown m_taped m_size t.1 t.2.1 t.2.2.1 t.2.2.2.1 t.2.2.2.2.1 t.2.2.2.2.2.1 t.2.2.2.2.2.2.1 m_happenings t.2.2.2.2.2.2.2.1 m_heard m_outs m_bounds a_tape t.2.2.2.2.2.2.2.2.1 t.2.2.2.2.2.2.2.2.2.1 t.2.2.2.2.2.2.2.2.2.2.1 t.2.2.2.2.2.2.2.2.2.2.2.1 t.2.2.2.2.2.2.2.2.2.2.2.2.1 t.2.2.2.2.2.2.2.2.2.2.2.2.2.1 t.2.2.2.2.2.2.2.2.2.2.2.2.2.2.1 t.2.2.2.2.2.2.2.2.2.2.2.2.2.2.2 a_out a_behind a_ahead a_most a_left a_far a_quarrel a_early a_earlyLast) s.heap H locs → lv_has ls 1 [(0, .ref (ad 0))] → W p l e rm_X12_readText s m args below meth c H locs 0 0 (QM_X12_readText below args s D ad y (m_thrown) (m_taped) (m_size) (m_happenings) (m_heard) (m_outs) (m_bounds) (a_tape) (a_out) (a_behind) (a_ahead) (a_most) (a_left) (a_far) (a_quarrel) (a_early) (a_earlyLast) res) (F0 m 86 ls [])) (hret : ∀ r, o = .inr (.inr r) → r = res) : W p l e rm_X12_readText s m args below meth c H locs 0 0 (QM_X12_readText below args s D ad y (m_thrown) (m_taped) (m_size) (m_happenings) (m_heard) (m_outs) (m_bounds) (a_tape) (a_out) (a_behind) (a_ahead) (a_most) (a_left) (a_far) (a_quarrel) (a_early) (a_earlyLast) res) (F0 m 25 ls []) := by
  obtain ⟨hx, hb, hr, hml, hown, hts, hlocks, hK, hst⟩ := id C0
  have i_X12 : ∀ w ∈ u_ws RX12 TX12 33, w ∈ wsX12_readText := by decide +kernel
  have L_92 := hts (.fieldLink RX12 92 "CaseOrderModel" "kind" "I") (by decide +kernel)
  have L_17 := hts (.fieldLink RX12 17 "CaseOrderModel" "many" "[I") (by decide +kernel)
  unfold f_X12_readText_l25 at hf
  refine lv_aload_n hx hb dX12_readText_25 rfl (lv_at hl 0 rfl) ?_
  refine g_get hx hb hts i_X12 hown hK hw 0 eR_c0 rfl 6 (by decide) L_92 (fun _ h => h) rfl dX12_readText_26 ?_
  refine lv_if_eq (tgt := 86) hx hb dX12_readText_29 (by decide) (fun c11 => ?_) (fun c11 => ?_)
  · have hf := it_p c11 hf
    exact hexit _ (so hf).symm _ _ _ hw (lv_sub hl [0] rfl)
  · have hf := it_n c11 hf
    refine lv_aload_n hx hb dX12_readText_32 rfl (lv_at hl 0 rfl) ?_
    refine lv_bipush (v := 72) hx hb dX12_readText_33 (by decide) ?_
    refine lv_aload_n hx hb dX12_readText_35 rfl (lv_at hl 0 rfl) ?_
    refine g_get hx hb hts i_X12 hown hK hw 0 eR_c0 rfl 14 (by decide) L_17 (fun _ h => h) rfl dX12_readText_36 ?_
    refine lv_bipush (v := 6) hx hb dX12_readText_39 (by decide) ?_
    obtain ⟨g12, hf⟩ := gIn_some hf
    refine g_iald hx hb hK hw 3 1 eR_c3 rfl g12 dX12_readText_41 ?_
    refine lv_bipush (v := 12) hx hb dX12_readText_42 (by decide) ?_
    refine lv_irem hx hb dX12_readText_44 (by decide) ?_
    refine lv_iadd hx hb dX12_readText_45 ?_
    obtain ⟨q13, hq13, hf⟩ := bd hf
    refine g_Vi (As := [.int (72 + ((sg.2.2.2.2.2.2.2.2.2.1 (Int32.toNatClampNeg 6)) - (sg.2.2.2.2.2.2.2.2.2.1 (Int32.toNatClampNeg 6)) / 12 * 12))]) (rest := []) ⟨hx, hb, hml, hown, hts⟩ (k_X12_readSaying hq13) (cwV 1 hts gX12_readText_X12_readSaying rfl rfl rfl (by decide +kernel) ⟨Nat.le_of_ble_eq_true rfl, Nat.le_of_ble_eq_true rfl⟩) STR_ok hst hK hw rfl eR_c0 rfl rfl hl.1 rfl (Nat.le_of_ble_eq_true rfl) dX12_readText_46 ⟨Nat.zero_le _, Nat.zero_le _⟩ (fun H locs hw => ?_)
    have hw : Wo D ad (Aw ad 19 s.heap.size) (eR ad y m_thrown m_taped m_size q13.2.1 q13.2.2.1 q13.2.2.2.1 q13.2.2.2.2.1 q13.2.2.2.2.2.1 q13.2.2.2.2.2.2.1 q13.2.2.2.2.2.2.2.1 m_happenings q13.2.2.2.2.2.2.2.2.1 m_heard m_outs m_bounds a_tape q13.2.2.2.2.2.2.2.2.2.1 sg.2.2.2.2.2.2.2.2.2.1 q13.2.2.2.2.2.2.2.2.2.2.1 q13.2.2.2.2.2.2.2.2.2.2.2.1 q13.2.2.2.2.2.2.2.2.2.2.2.2.1 q13.2.2.2.2.2.2.2.2.2.2.2.2.2.1 q13.2.2.2.2.2.2.2.2.2.2.2.2.2.2.1 q13.2.2.2.2.2.2.2.2.2.2.2.2.2.2.2 a_out a_behind a_ahead a_most a_left a_far a_quarrel a_early a_earlyLast) s.heap H locs := hw
    refine lv_if_ne (tgt := 54) hx hb dX12_readText_49 (by decide) (fun c14 => ?_) (fun c14 => ?_)
    · have hf := it_n c14 hf
      refine lv_aload_n hx hb dX12_readText_54 rfl (lv_at hl 0 rfl) ?_
      refine g_get hx hb hts i_X12 hown hK hw 0 eR_c0 rfl 6 (by decide) L_92 (fun _ h => h) rfl dX12_readText_55 ?_
      refine lv_iconst (v := 4) hx hb dX12_readText_58 (by decide) ?_
      refine lv_icmp_eq (tgt := 68) hx hb dX12_readText_59 (by decide) (fun c15 => ?_) (fun c15 => ?_)
      · have hf := it_p c15 hf
        refine lv_aload_n hx hb dX12_readText_68 rfl (lv_at hl 0 rfl) ?_
        refine g_get hx hb hts i_X12 hown hK hw 0 eR_c0 rfl 14 (by decide) L_17 (fun _ h => h) rfl dX12_readText_69 ?_
        refine lv_bipush (v := 6) hx hb dX12_readText_72 (by decide) ?_
        refine lv_dup2_11 hx hb dX12_readText_74 rfl rfl ?_
        obtain ⟨g16, hf⟩ := gIn_some hf
        refine g_iald hx hb hK hw 3 1 eR_c3 rfl g16 dX12_readText_75 ?_
        refine lv_iconst (v := 1) hx hb dX12_readText_76 (by decide) ?_
        refine lv_iadd hx hb dX12_readText_77 ?_
        obtain ⟨g17, hf⟩ := gIn_some hf
        refine g_iast hx hb hK hw 3 1 eR_c3 rfl g17 dX12_readText_78 (fun H locs hw => ?_)
        have hw : Wo D ad (Aw ad 19 s.heap.size) (eR ad y m_thrown m_taped m_size q13.2.1 q13.2.2.1 q13.2.2.2.1 q13.2.2.2.2.1 q13.2.2.2.2.2.1 q13.2.2.2.2.2.2.1 q13.2.2.2.2.2.2.2.1 m_happenings q13.2.2.2.2.2.2.2.2.1 m_heard m_outs m_bounds a_tape q13.2.2.2.2.2.2.2.2.2.1 (upd sg.2.2.2.2.2.2.2.2.2.1 (Int32.toNatClampNeg 6) ((sg.2.2.2.2.2.2.2.2.2.1 (Int32.toNatClampNeg 6)) + 1)) q13.2.2.2.2.2.2.2.2.2.2.1 q13.2.2.2.2.2.2.2.2.2.2.2.1 q13.2.2.2.2.2.2.2.2.2.2.2.2.1 q13.2.2.2.2.2.2.2.2.2.2.2.2.2.1 q13.2.2.2.2.2.2.2.2.2.2.2.2.2.2.1 q13.2.2.2.2.2.2.2.2.2.2.2.2.2.2.2 a_out a_behind a_ahead a_most a_left a_far a_quarrel a_early a_earlyLast) s.heap H locs := hw
        refine lv_aload_n hx hb dX12_readText_79 rfl (lv_at hl 0 rfl) ?_
        obtain ⟨q18, hq18, hf⟩ := bd hf
        refine g_Vv (As := []) (rest := []) ⟨hx, hb, hml, hown, hts⟩ (k_X12_go hq18) (cwV 0 hts gX12_readText_X12_go rfl rfl rfl (by decide +kernel) ⟨Nat.le_of_ble_eq_true rfl, Nat.le_of_ble_eq_true rfl⟩) STR_ok hst hK hw rfl eR_c0 rfl rfl hl.1 rfl (Nat.le_of_ble_eq_true rfl) dX12_readText_80 ⟨Nat.zero_le _, Nat.zero_le _⟩ (fun H locs hw => ?_)
        have hw : Wo D ad (Aw ad 19 s.heap.size) (eR ad y m_thrown m_taped m_size q18.1 q18.2.1 q18.2.2.1 q18.2.2.2.1 q13.2.2.2.2.2.1 q13.2.2.2.2.2.2.1 q18.2.2.2.2 m_happenings q13.2.2.2.2.2.2.2.2.1 m_heard m_outs m_bounds a_tape q13.2.2.2.2.2.2.2.2.2.1 (upd sg.2.2.2.2.2.2.2.2.2.1 (Int32.toNatClampNeg 6) ((sg.2.2.2.2.2.2.2.2.2.1 (Int32.toNatClampNeg 6)) + 1)) q13.2.2.2.2.2.2.2.2.2.2.1 q13.2.2.2.2.2.2.2.2.2.2.2.1 q13.2.2.2.2.2.2.2.2.2.2.2.2.1 q13.2.2.2.2.2.2.2.2.2.2.2.2.2.1 q13.2.2.2.2.2.2.2.2.2.2.2.2.2.2.1 q13.2.2.2.2.2.2.2.2.2.2.2.2.2.2.2 a_out a_behind a_ahead a_most a_left a_far a_quarrel a_early a_earlyLast) s.heap H locs := hw
        refine lv_goto (tgt := 25) hx hb dX12_readText_83 (by decide) ?_
        exact hcont _ (so hf).symm _ _ _ hw (lv_sub hl [0] rfl)
      · have hf := it_n c15 hf
        refine lv_aload_n hx hb dX12_readText_62 rfl (lv_at hl 0 rfl) ?_
        refine lv_iconst (v := 1) hx hb dX12_readText_63 (by decide) ?_
        obtain ⟨q19, hq19, hf⟩ := bd hf
        refine g_Vi (As := [.int 1]) (rest := []) ⟨hx, hb, hml, hown, hts⟩ (k_X12_bad hq19) (cwV 1 hts gX12_readText_X12_bad rfl rfl rfl (by decide +kernel) ⟨Nat.le_of_ble_eq_true rfl, Nat.le_of_ble_eq_true rfl⟩) STR_ok hst hK hw rfl eR_c0 rfl rfl hl.1 rfl (Nat.le_of_ble_eq_true rfl) dX12_readText_64 ⟨Nat.zero_le _, Nat.zero_le _⟩ (fun H locs hw => ?_)
        have hw : Wo D ad (Aw ad 19 s.heap.size) (eR ad y m_thrown m_taped m_size q13.2.1 q13.2.2.1 q13.2.2.2.1 q13.2.2.2.2.1 q19.2.1 q19.2.2 q13.2.2.2.2.2.2.2.1 m_happenings q13.2.2.2.2.2.2.2.2.1 m_heard m_outs m_bounds a_tape q13.2.2.2.2.2.2.2.2.2.1 sg.2.2.2.2.2.2.2.2.2.1 q13.2.2.2.2.2.2.2.2.2.2.1 q13.2.2.2.2.2.2.2.2.2.2.2.1 q13.2.2.2.2.2.2.2.2.2.2.2.2.1 q13.2.2.2.2.2.2.2.2.2.2.2.2.2.1 q13.2.2.2.2.2.2.2.2.2.2.2.2.2.2.1 q13.2.2.2.2.2.2.2.2.2.2.2.2.2.2.2 a_out a_behind a_ahead a_most a_left a_far a_quarrel a_early a_earlyLast) s.heap H locs := hw
        obtain ⟨g20, hf⟩ := gB_some hf
        obtain rfl := hret _ (so hf).symm
        exact W.zret (v := q19.1) hx hb hr (gB_n g20) (fun t ht _ => g_end hw t ht) hw.2.2.2.2 dX12_readText_67
    · have hf := it_p c14 hf
      refine lv_iconst (v := 0) hx hb dX12_readText_52 (by decide) ?_
      obtain rfl := hret _ (so hf).symm
      exact W.zret (v := 0) hx hb hr rfl (fun t ht _ => g_end hw t ht) hw.2.2.2.2 dX12_readText_53
set_option maxHeartbeats 4000000 in
theorem kl_X12_readText_25 {p : Program} {l : Launch} {e : Env} {s : State} {m : MethodId} {args : Array Value} {below : List Frame} {meth : Method} {c : Code} {D : va_G} {ad : Nat → Nat} {y : Nat → ClassId} (C0 : CXT wsX12_readText cX12_readText RX12 1 (some .boolean) D (tyL y) (STR ad) p s m args meth c) {m_thrown : Int32} {m_taped : Int32} {m_size : Int32} {m_happenings : Int32} {m_heard : Int32} {m_outs : Int32} {m_bounds : Int32} {a_tape : Nat → Int32} {a_out : Nat → Int32} {a_behind : Nat → Int32} {a_ahead : Nat → Int32} {a_most : Nat → Int32} {a_left : Nat → Int32} {a_far : Nat → Int32} {a_quarrel : Nat → Int32} {a_early : Nat → Int32} {a_earlyLast : Nat → Int32}  {res : Int32 × Int32 × Int32 × Int32 × Int32 × Int32 × Int32 × Int64 × Int32 × (Nat → Int64) × (Nat → Int32) × (Nat → Int32) × (Nat → Int32) × (Nat → Int32) × (Nat → Int32) × (Nat → Int32) × (Nat → Int32)} : ∀ (n : Nat) (sg : Int32 × Int32 × Int32 × Int32 × Int32 × Int32 × Int64 × Int32 × (Nat → Int64) × (Nat → Int32) × (Nat → Int32) × (Nat → Int32) × (Nat → Int32) × (Nat → Int32) × (Nat → Int32) × (Nat → Int32)) (q : (Int32 × Int32 × Int32 × Int32 × Int32 × Int32 × Int64 × Int32 × (Nat → Int64) × (Nat → Int32) × (Nat → Int32) × (Nat → Int32) × (Nat → Int32) × (Nat → Int32) × (Nat → Int32) × (Nat → Int32)) ⊕ (Int32 × Int32 × Int32 × Int32 × Int32 × Int32 × Int32 × Int64 × Int32 × (Nat → Int64) × (Nat → Int32) × (Nat → Int32) × (Nat → Int32) × (Nat → Int32) × (Nat → Int32) × (Nat → Int32) × (Nat → Int32))), lp (f_X12_readText_l25 m_size m_happenings a_tape) n sg = some q → ∀ (H : Heap) (locs : List Loc) (ls : Array Slot), Wo D ad (Aw ad 19 s.heap.size) (eR ad y m_thrown m_taped m_size sg.1 sg.2.1 sg.2.2.1 sg.2.2.2.1 sg.2.2.2.2.1 sg.2.2.2.2.2.1 sg.2.2.2.2.2.2.1 m_happenings sg.2.2.2.2.2.2.2.1 m_heard m_outs m_bounds a_tape sg.2.2.2.2.2.2.2.2.1 sg.2.2.2.2.2.2.2.2.2.1 sg.2.2.2.2.2.2.2.2.2.2.1 sg.2.2.2.2.2.2.2.2.2.2.2.1 sg.2.2.2.2.2.2.2.2.2.2.2.2.1 sg.2.2.2.2.2.2.2.2.2.2.2.2.2.1 sg.2.2.2.2.2.2.2.2.2.2.2.2.2.2.1 sg.2.2.2.2.2.2.2.2.2.2.2.2.2.2.2 a_out a_behind a_ahead a_most a_left a_far a_quarrel a_early a_earlyLast) s.heap H locs → lv_has ls 1 [(0, .ref (ad 0))] → (∀ t, q = .inl t → ∀ (H : Heap) (locs : List Loc) (ls : Array Slot), Wo D ad (Aw ad 19 s.heap.size) (eR ad y m_thrown m_taped m_size t.1 t.2.1 t.2.2.1 t.2.2.2.1 t.2.2.2.2.1 t.2.2.2.2.2.1 t.2.2.2.2.2.2.1 m_happenings t.2.2.2.2.2.2.2.1 m_heard m_outs m_bounds a_tape t.2.2.2.2.2.2.2.2.1 t.2.2.2.2.2.2.2.2.2.1 t.2.2.2.2.2.2.2.2.2.2.1 t.2.2.2.2.2.2.2.2.2.2.2.1 t.2.2.2.2.2.2.2.2.2.2.2.2.1 t.2.2.2.2.2.2.2.2.2.2.2.2.2.1 t.2.2.2.2.2.2.2.2.2.2.2.2.2.2.1 t.2.2.2.2.2.2.2.2.2.2.2.2.2.2.2 a_out a_behind a_ahead a_most a_left a_far a_quarrel a_early a_earlyLast) s.heap H locs → lv_has ls 1 [(0, .ref (ad 0))] → W p l e rm_X12_readText s m args below meth c H locs 0 0 (QM_X12_readText below args s D ad y (m_thrown) (m_taped) (m_size) (m_happenings) (m_heard) (m_outs) (m_bounds) (a_tape) (a_out) (a_behind) (a_ahead) (a_most) (a_left) (a_far) (a_quarrel) (a_early) (a_earlyLast) res) (F0 m 86 ls [])) → (∀ r, q = .inr r → r = res) → W p l e rm_X12_readText s m args below meth c H locs 0 0 (QM_X12_readText below args s D ad y (m_thrown) (m_taped) (m_size) (m_happenings) (m_heard) (m_outs) (m_bounds) (a_tape) (a_out) (a_behind) (a_ahead) (a_most) (a_left) (a_far) (a_quarrel) (a_early) (a_earlyLast) res) (F0 m 25 ls []) := by
  intro n
  induction n with
  | zero => intro sg q hf; exact absurd hf lp_zero
  | succ n ih =>
    intro sg q hf H locs ls hw hl hexit hret
    rcases lp_succ hf with ⟨sg2, h1, h2⟩ | h1
    · exact kw_X12_readText_25 C0 h1 hw hl (fun s2 e2 H locs ls hw hl => by cases e2; exact ih _ q h2 H locs ls hw hl hexit hret) (fun t e2 => by cases e2) (fun r e2 => by cases e2)
    · exact kw_X12_readText_25 C0 h1 hw hl (fun s2 e2 => by cases e2) (fun t e2 => by cases e2; exact hexit t rfl) (fun r e2 => by cases e2; exact hret r rfl)
set_option maxHeartbeats 4000000 in
set_option maxRecDepth 100000 in
theorem ke_X12_readText {p : Program} {l : Launch} {e : Env} {s : State} {m : MethodId} {args : Array Value} {below : List Frame} {meth : Method} {c : Code} {D : va_G} {ad : Nat → Nat} {y : Nat → ClassId} (C0 : CXT wsX12_readText cX12_readText RX12 1 (some .boolean) D (tyL y) (STR ad) p s m args meth c) {m_thrown : Int32} {m_taped : Int32} {m_size : Int32} {m_to : Int32} {m_from : Int32} {m_kind : Int32} {m_number : Int32} {m_fault : Int32} {m_place : Int32} {m_name : Int64} {m_happenings : Int32} {m_newHappenings : Int32} {m_heard : Int32} {m_outs : Int32} {m_bounds : Int32} {a_tape : Nat → Int32} {a_happened : Nat → Int64} {a_many : Nat → Int32} {a_sort : Nat → Int32} {a_one : Nat → Int32} {a_other : Nat → Int32} {a_low : Nat → Int32} {a_high : Nat → Int32} {a_begins : Nat → Int32} {a_out : Nat → Int32} {a_behind : Nat → Int32} {a_ahead : Nat → Int32} {a_most : Nat → Int32} {a_left : Nat → Int32} {a_far : Nat → Int32} {a_quarrel : Nat → Int32} {a_early : Nat → Int32} {a_earlyLast : Nat → Int32}  {res : Int32 × Int32 × Int32 × Int32 × Int32 × Int32 × Int32 × Int64 × Int32 × (Nat → Int64) × (Nat → Int32) × (Nat → Int32) × (Nat → Int32) × (Nat → Int32) × (Nat → Int32) × (Nat → Int32) × (Nat → Int32)} (hf : f_X12_readText m_size m_to m_from m_kind m_number m_fault m_place m_name m_happenings m_newHappenings a_tape a_happened a_many a_sort a_one a_other a_low a_high a_begins = some res) {H : Heap} {locs : List Loc} {ls : Array Slot} (hw : Wo D ad (Aw ad 19 s.heap.size) (eR ad y m_thrown m_taped m_size m_to m_from m_kind m_number m_fault m_place m_name m_happenings m_newHappenings m_heard m_outs m_bounds a_tape a_happened a_many a_sort a_one a_other a_low a_high a_begins a_out a_behind a_ahead a_most a_left a_far a_quarrel a_early a_earlyLast) s.heap H locs) (hl : lv_has ls 1 [(0, .ref (ad 0))]) : W p l e rm_X12_readText s m args below meth c H locs 0 0 (QM_X12_readText below args s D ad y (m_thrown) (m_taped) (m_size) (m_happenings) (m_heard) (m_outs) (m_bounds) (a_tape) (a_out) (a_behind) (a_ahead) (a_most) (a_left) (a_far) (a_quarrel) (a_early) (a_earlyLast) res) (F0 m 0 ls []) := by
  obtain ⟨hx, hb, hr, hml, hown, hts, hlocks, hK, hst⟩ := id C0
  have i_X12 : ∀ w ∈ u_ws RX12 TX12 33, w ∈ wsX12_readText := by decide +kernel
  have L_17 := hts (.fieldLink RX12 17 "CaseOrderModel" "many" "[I") (by decide +kernel)
  have L_181 := hts (.fieldLink RX12 181 "CaseOrderModel" "happenings" "I") (by decide +kernel)
  have L_157 := hts (.fieldLink RX12 157 "CaseOrderModel" "newHappenings" "I") (by decide +kernel)
  have L_80 := hts (.fieldLink RX12 80 "CaseOrderModel" "to" "I") (by decide +kernel)
  unfold f_X12_readText at hf
  refine lv_aload_n hx hb dX12_readText_0 rfl (lv_at hl 0 rfl) ?_
  refine g_get hx hb hts i_X12 hown hK hw 0 eR_c0 rfl 14 (by decide) L_17 (fun _ h => h) rfl dX12_readText_1 ?_
  refine lv_bipush (v := 6) hx hb dX12_readText_4 (by decide) ?_
  refine lv_iconst (v := 0) hx hb dX12_readText_6 (by decide) ?_
  obtain ⟨g9, hf⟩ := gIn_some hf
  refine g_iast hx hb hK hw 3 1 eR_c3 rfl g9 dX12_readText_7 (fun H locs hw => ?_)
  have hw : Wo D ad (Aw ad 19 s.heap.size) (eR ad y m_thrown m_taped m_size m_to m_from m_kind m_number m_fault m_place m_name m_happenings m_newHappenings m_heard m_outs m_bounds a_tape a_happened (upd a_many (Int32.toNatClampNeg 6) 0) a_sort a_one a_other a_low a_high a_begins a_out a_behind a_ahead a_most a_left a_far a_quarrel a_early a_earlyLast) s.heap H locs := hw
  refine lv_aload_n hx hb dX12_readText_8 rfl (lv_at hl 0 rfl) ?_
  refine lv_aload_n hx hb dX12_readText_9 rfl (lv_at hl 0 rfl) ?_
  refine g_get hx hb hts i_X12 hown hK hw 0 eR_c0 rfl 12 (by decide) L_181 (fun _ h => h) rfl dX12_readText_10 ?_
  refine g_put (ty := .int) hx hb hts i_X12 tyX12 tyX12_ok nmX12 hown hK hw 0 eR_c0 rfl 13 (by decide) L_157 (fun _ h => h) rfl (by decide +kernel) rfl rfl (Nat.le_of_ble_eq_true rfl) dX12_readText_13 (fun H locs hw => ?_)
  have hw : Wo D ad (Aw ad 19 s.heap.size) (eR ad y m_thrown m_taped m_size m_to m_from m_kind m_number m_fault m_place m_name m_happenings m_happenings m_heard m_outs m_bounds a_tape a_happened (upd a_many (Int32.toNatClampNeg 6) 0) a_sort a_one a_other a_low a_high a_begins a_out a_behind a_ahead a_most a_left a_far a_quarrel a_early a_earlyLast) s.heap H locs := hw
  refine lv_aload_n hx hb dX12_readText_16 rfl (lv_at hl 0 rfl) ?_
  refine lv_iconst (v := 0) hx hb dX12_readText_17 (by decide) ?_
  refine g_put (ty := .int) hx hb hts i_X12 tyX12 tyX12_ok nmX12 hown hK hw 0 eR_c0 rfl 4 (by decide) L_80 (fun _ h => h) rfl (by decide +kernel) rfl rfl (Nat.le_of_ble_eq_true rfl) dX12_readText_18 (fun H locs hw => ?_)
  have hw : Wo D ad (Aw ad 19 s.heap.size) (eR ad y m_thrown m_taped m_size 0 m_from m_kind m_number m_fault m_place m_name m_happenings m_happenings m_heard m_outs m_bounds a_tape a_happened (upd a_many (Int32.toNatClampNeg 6) 0) a_sort a_one a_other a_low a_high a_begins a_out a_behind a_ahead a_most a_left a_far a_quarrel a_early a_earlyLast) s.heap H locs := hw
  refine lv_aload_n hx hb dX12_readText_21 rfl (lv_at hl 0 rfl) ?_
  obtain ⟨q10, hq10, hf⟩ := bd hf
  refine g_Vv (As := []) (rest := []) ⟨hx, hb, hml, hown, hts⟩ (k_X12_go hq10) (cwV 0 hts gX12_readText_X12_go rfl rfl rfl (by decide +kernel) ⟨Nat.le_of_ble_eq_true rfl, Nat.le_of_ble_eq_true rfl⟩) STR_ok hst hK hw rfl eR_c0 rfl rfl hl.1 rfl (Nat.le_of_ble_eq_true rfl) dX12_readText_22 ⟨Nat.zero_le _, Nat.zero_le _⟩ (fun H locs hw => ?_)
  have hw : Wo D ad (Aw ad 19 s.heap.size) (eR ad y m_thrown m_taped m_size q10.1 q10.2.1 q10.2.2.1 q10.2.2.2.1 m_fault m_place q10.2.2.2.2 m_happenings m_happenings m_heard m_outs m_bounds a_tape a_happened (upd a_many (Int32.toNatClampNeg 6) 0) a_sort a_one a_other a_low a_high a_begins a_out a_behind a_ahead a_most a_left a_far a_quarrel a_early a_earlyLast) s.heap H locs := hw
  obtain ⟨q21, hq21, hf⟩ := bd hf
  refine kl_X12_readText_25 C0 gFU _ _ hq21 _ _ _ hw (lv_sub hl [0] rfl) (fun t22 et22 H locs ls hw hl => ?_) (fun r23 er23 => ?_)
  · rw [et22] at hf
    have hf := el_l hf
    have hw : Wo D ad (Aw ad 19 s.heap.size) (eR ad y m_thrown m_taped m_size t22.1 t22.2.1 t22.2.2.1 t22.2.2.2.1 t22.2.2.2.2.1 t22.2.2.2.2.2.1 t22.2.2.2.2.2.2.1 m_happenings t22.2.2.2.2.2.2.2.1 m_heard m_outs m_bounds a_tape t22.2.2.2.2.2.2.2.2.1 t22.2.2.2.2.2.2.2.2.2.1 t22.2.2.2.2.2.2.2.2.2.2.1 t22.2.2.2.2.2.2.2.2.2.2.2.1 t22.2.2.2.2.2.2.2.2.2.2.2.2.1 t22.2.2.2.2.2.2.2.2.2.2.2.2.2.1 t22.2.2.2.2.2.2.2.2.2.2.2.2.2.2.1 t22.2.2.2.2.2.2.2.2.2.2.2.2.2.2.2 a_out a_behind a_ahead a_most a_left a_far a_quarrel a_early a_earlyLast) s.heap H locs := hw
    have hl : lv_has ls 1 [(0, .ref (ad 0))] := hl
    refine lv_iconst (v := 1) hx hb dX12_readText_86 (by decide) ?_
    obtain rfl := so hf
    exact W.zret (v := 1) hx hb hr rfl (fun t ht _ => g_end hw t ht) hw.2.2.2.2 dX12_readText_87
  · rw [er23] at hf
    have hf := el_r hf
    exact so hf
set_option maxHeartbeats 4000000 in
theorem k_X12_readText {l : Launch} {D : va_G} {ad : Nat → Nat} {y : Nat → ClassId} {m_thrown : Int32} {m_taped : Int32} {m_size : Int32} {m_to : Int32} {m_from : Int32} {m_kind : Int32} {m_number : Int32} {m_fault : Int32} {m_place : Int32} {m_name : Int64} {m_happenings : Int32} {m_newHappenings : Int32} {m_heard : Int32} {m_outs : Int32} {m_bounds : Int32} {a_tape : Nat → Int32} {a_happened : Nat → Int64} {a_many : Nat → Int32} {a_sort : Nat → Int32} {a_one : Nat → Int32} {a_other : Nat → Int32} {a_low : Nat → Int32} {a_high : Nat → Int32} {a_begins : Nat → Int32} {a_out : Nat → Int32} {a_behind : Nat → Int32} {a_ahead : Nat → Int32} {a_most : Nat → Int32} {a_left : Nat → Int32} {a_far : Nat → Int32} {a_quarrel : Nat → Int32} {a_early : Nat → Int32} {a_earlyLast : Nat → Int32}  {res : Int32 × Int32 × Int32 × Int32 × Int32 × Int32 × Int32 × Int64 × Int32 × (Nat → Int64) × (Nat → Int32) × (Nat → Int32) × (Nat → Int32) × (Nat → Int32) × (Nat → Int32) × (Nat → Int32) × (Nat → Int32)} (hf : f_X12_readText m_size m_to m_from m_kind m_number m_fault m_place m_name m_happenings m_newHappenings a_tape a_happened a_many a_sort a_one a_other a_low a_high a_begins = some res) : CTi l yX12_readText wsX12_readText rm_X12_readText D ad 19 (tyL y) (STR ad) (eR ad y m_thrown m_taped m_size m_to m_from m_kind m_number m_fault m_place m_name m_happenings m_newHappenings m_heard m_outs m_bounds a_tape a_happened a_many a_sort a_one a_other a_low a_high a_begins a_out a_behind a_ahead a_most a_left a_far a_quarrel a_early a_earlyLast) (eR ad y m_thrown m_taped m_size res.2.1 res.2.2.1 res.2.2.2.1 res.2.2.2.2.1 res.2.2.2.2.2.1 res.2.2.2.2.2.2.1 res.2.2.2.2.2.2.2.1 m_happenings res.2.2.2.2.2.2.2.2.1 m_heard m_outs m_bounds a_tape res.2.2.2.2.2.2.2.2.2.1 res.2.2.2.2.2.2.2.2.2.2.1 res.2.2.2.2.2.2.2.2.2.2.2.1 res.2.2.2.2.2.2.2.2.2.2.2.2.1 res.2.2.2.2.2.2.2.2.2.2.2.2.2.1 res.2.2.2.2.2.2.2.2.2.2.2.2.2.2.1 res.2.2.2.2.2.2.2.2.2.2.2.2.2.2.2.1 res.2.2.2.2.2.2.2.2.2.2.2.2.2.2.2.2 a_out a_behind a_ahead a_most a_left a_far a_quarrel a_early a_earlyLast) [.ref (ad 0)] res.1 := by
  intro sz
  refine Met.ofW (cc := cX12_readText) (maxL := 1) (ret := (some .boolean)) (by decide) rfl ?_
  intro p e s m args below meth c s₁ B hml hv
  obtain ⟨rfl, hsz, hP, hK, hD0, hst⟩ := hv
  subst hsz
  have C0 : CXT wsX12_readText cX12_readText RX12 1 (some .boolean) D (tyL y) (STR ad) p s m ([.ref (ad 0)] : List Value).toArray meth c := ⟨B.exec, B.bytes, B.returns, hml, findClass_of_methodNamed B.named, atoms_spec (ws := wsX12_readText) B.pre, B.notSynchronized, hK, hst⟩
  have hw := g_start (n := 19) rfl hP hD0
  have hl := lv_entry ([.ref (ad 0)]) (n := 1) (Nat.le_of_ble_eq_true rfl)
  rw [lg_entry_eq]
  generalize (lg_sl ([.ref (ad 0)]) ++ List.replicate (1 - (lg_sl ([.ref (ad 0)])).length) Slot.unset).toArray = ls at hl ⊢
  have hl : lv_has ls 1 [(0, .ref (ad 0))] := hl
  exact ke_X12_readText C0 hf hw hl
abbrev rm_X12_isTeller : Room := { frames := 0, cells := 0, slots := 0, locals := 0 }
abbrev QM_X12_isTeller (below : List Frame) (args : Array Value) (s : State) (D : va_G) (ad : Nat → Nat) (y : Nat → ClassId) (m_thrown : Int32) (m_taped : Int32) (m_size : Int32) (m_to : Int32) (m_from : Int32) (m_kind : Int32) (m_number : Int32) (m_fault : Int32) (m_place : Int32) (m_name : Int64) (m_happenings : Int32) (m_newHappenings : Int32) (m_heard : Int32) (m_outs : Int32) (m_bounds : Int32) (a_tape : Nat → Int32) (a_happened : Nat → Int64) (a_many : Nat → Int32) (a_sort : Nat → Int32) (a_one : Nat → Int32) (a_other : Nat → Int32) (a_low : Nat → Int32) (a_high : Nat → Int32) (a_begins : Nat → Int32) (a_out : Nat → Int32) (a_behind : Nat → Int32) (a_ahead : Nat → Int32) (a_most : Nat → Int32) (a_left : Nat → Int32) (a_far : Nat → Int32) (a_quarrel : Nat → Int32) (a_early : Nat → Int32) (a_earlyLast : Nat → Int32) (res : Int32) : State → Prop := MQ below (va_Qi (fun x (_ : Unit) => x = res) (fun _ t => va_P D vwCl (wls ad (eR ad y m_thrown m_taped m_size m_to m_from m_kind m_number m_fault m_place m_name m_happenings m_newHappenings m_heard m_outs m_bounds a_tape a_happened a_many a_sort a_one a_other a_low a_high a_begins a_out a_behind a_ahead a_most a_left a_far a_quarrel a_early a_earlyLast)) t.heap) (Aw ad 19 s.heap.size)) args s 0 0 (Aw ad 19 s.heap.size)
set_option maxHeartbeats 4000000 in
set_option maxRecDepth 100000 in
theorem ke_X12_isTeller {p : Program} {l : Launch} {e : Env} {s : State} {m : MethodId} {args : Array Value} {below : List Frame} {meth : Method} {c : Code} {D : va_G} {ad : Nat → Nat} {y : Nat → ClassId} (C0 : CXT wsX12_isTeller cX12_isTeller RX12 1 (some .boolean) D (tyL y) (STR ad) p s m args meth c) {m_thrown : Int32} {m_taped : Int32} {m_size : Int32} {m_to : Int32} {m_from : Int32} {m_kind : Int32} {m_number : Int32} {m_fault : Int32} {m_place : Int32} {m_name : Int64} {m_happenings : Int32} {m_newHappenings : Int32} {m_heard : Int32} {m_outs : Int32} {m_bounds : Int32} {a_tape : Nat → Int32} {a_happened : Nat → Int64} {a_many : Nat → Int32} {a_sort : Nat → Int32} {a_one : Nat → Int32} {a_other : Nat → Int32} {a_low : Nat → Int32} {a_high : Nat → Int32} {a_begins : Nat → Int32} {a_out : Nat → Int32} {a_behind : Nat → Int32} {a_ahead : Nat → Int32} {a_most : Nat → Int32} {a_left : Nat → Int32} {a_far : Nat → Int32} {a_quarrel : Nat → Int32} {a_early : Nat → Int32} {a_earlyLast : Nat → Int32} {p0 : Int32} {res : Int32} (hf : f_X12_isTeller p0 = some res) {H : Heap} {locs : List Loc} {ls : Array Slot} (hw : Wo D ad (Aw ad 19 s.heap.size) (eR ad y m_thrown m_taped m_size m_to m_from m_kind m_number m_fault m_place m_name m_happenings m_newHappenings m_heard m_outs m_bounds a_tape a_happened a_many a_sort a_one a_other a_low a_high a_begins a_out a_behind a_ahead a_most a_left a_far a_quarrel a_early a_earlyLast) s.heap H locs) (hl : lv_has ls 1 [(0, .int p0)]) : W p l e rm_X12_isTeller s m args below meth c H locs 0 0 (QM_X12_isTeller below args s D ad y (m_thrown) (m_taped) (m_size) (m_to) (m_from) (m_kind) (m_number) (m_fault) (m_place) (m_name) (m_happenings) (m_newHappenings) (m_heard) (m_outs) (m_bounds) (a_tape) (a_happened) (a_many) (a_sort) (a_one) (a_other) (a_low) (a_high) (a_begins) (a_out) (a_behind) (a_ahead) (a_most) (a_left) (a_far) (a_quarrel) (a_early) (a_earlyLast) res) (F0 m 0 ls []) := by
  obtain ⟨hx, hb, hr, hml, hown, hts, hlocks, hK, hst⟩ := id C0
  unfold f_X12_isTeller at hf
  refine lv_iload_n hx hb dX12_isTeller_0 rfl (lv_at hl 0 rfl) ?_
  refine lv_if_lt (tgt := 14) hx hb dX12_isTeller_1 (by decide) (fun c1 => ?_) (fun c1 => ?_)
  · have hf := it_p c1 hf
    refine lv_iconst (v := 0) hx hb dX12_isTeller_14 (by decide) ?_
    obtain rfl := so hf
    exact W.zret (v := 0) hx hb hr rfl (fun t ht _ => g_end hw t ht) hw.2.2.2.2 dX12_isTeller_15
  · have hf := it_n c1 hf
    refine lv_iload_n hx hb dX12_isTeller_4 rfl (lv_at hl 0 rfl) ?_
    refine lv_bipush (v := 6) hx hb dX12_isTeller_5 (by decide) ?_
    refine lv_icmp_ge (tgt := 14) hx hb dX12_isTeller_7 (by decide) (fun c2 => ?_) (fun c2 => ?_)
    · have hf := it_p c2 hf
      refine lv_iconst (v := 0) hx hb dX12_isTeller_14 (by decide) ?_
      obtain rfl := so hf
      exact W.zret (v := 0) hx hb hr rfl (fun t ht _ => g_end hw t ht) hw.2.2.2.2 dX12_isTeller_15
    · have hf := it_n c2 hf
      refine lv_iconst (v := 1) hx hb dX12_isTeller_10 (by decide) ?_
      refine lv_goto (tgt := 15) hx hb dX12_isTeller_11 (by decide) ?_
      obtain rfl := so hf
      exact W.zret (v := 1) hx hb hr rfl (fun t ht _ => g_end hw t ht) hw.2.2.2.2 dX12_isTeller_15
set_option maxHeartbeats 4000000 in
theorem k_X12_isTeller {l : Launch} {D : va_G} {ad : Nat → Nat} {y : Nat → ClassId} {m_thrown : Int32} {m_taped : Int32} {m_size : Int32} {m_to : Int32} {m_from : Int32} {m_kind : Int32} {m_number : Int32} {m_fault : Int32} {m_place : Int32} {m_name : Int64} {m_happenings : Int32} {m_newHappenings : Int32} {m_heard : Int32} {m_outs : Int32} {m_bounds : Int32} {a_tape : Nat → Int32} {a_happened : Nat → Int64} {a_many : Nat → Int32} {a_sort : Nat → Int32} {a_one : Nat → Int32} {a_other : Nat → Int32} {a_low : Nat → Int32} {a_high : Nat → Int32} {a_begins : Nat → Int32} {a_out : Nat → Int32} {a_behind : Nat → Int32} {a_ahead : Nat → Int32} {a_most : Nat → Int32} {a_left : Nat → Int32} {a_far : Nat → Int32} {a_quarrel : Nat → Int32} {a_early : Nat → Int32} {a_earlyLast : Nat → Int32} {p0 : Int32} {res : Int32} (hf : f_X12_isTeller p0 = some res) : CTi l yX12_isTeller wsX12_isTeller rm_X12_isTeller D ad 19 (tyL y) (STR ad) (eR ad y m_thrown m_taped m_size m_to m_from m_kind m_number m_fault m_place m_name m_happenings m_newHappenings m_heard m_outs m_bounds a_tape a_happened a_many a_sort a_one a_other a_low a_high a_begins a_out a_behind a_ahead a_most a_left a_far a_quarrel a_early a_earlyLast) (eR ad y m_thrown m_taped m_size m_to m_from m_kind m_number m_fault m_place m_name m_happenings m_newHappenings m_heard m_outs m_bounds a_tape a_happened a_many a_sort a_one a_other a_low a_high a_begins a_out a_behind a_ahead a_most a_left a_far a_quarrel a_early a_earlyLast) [.int p0] res := by
  intro sz
  refine Met.ofW (cc := cX12_isTeller) (maxL := 1) (ret := (some .boolean)) (by decide) rfl ?_
  intro p e s m args below meth c s₁ B hml hv
  obtain ⟨rfl, hsz, hP, hK, hD0, hst⟩ := hv
  subst hsz
  have C0 : CXT wsX12_isTeller cX12_isTeller RX12 1 (some .boolean) D (tyL y) (STR ad) p s m ([.int p0] : List Value).toArray meth c := ⟨B.exec, B.bytes, B.returns, hml, findClass_of_methodNamed B.named, atoms_spec (ws := wsX12_isTeller) B.pre, B.notSynchronized, hK, hst⟩
  have hw := g_start (n := 19) rfl hP hD0
  have hl := lv_entry ([.int p0]) (n := 1) (Nat.le_of_ble_eq_true rfl)
  rw [lg_entry_eq]
  generalize (lg_sl ([.int p0]) ++ List.replicate (1 - (lg_sl ([.int p0])).length) Slot.unset).toArray = ls at hl ⊢
  have hl : lv_has ls 1 [(0, .int p0)] := hl
  exact ke_X12_isTeller C0 hf hw hl
abbrev rm_X12_tell : Room := { frames := 7, cells := 0, slots := 0, locals := 152 }
abbrev QM_X12_tell (below : List Frame) (args : Array Value) (s : State) (D : va_G) (ad : Nat → Nat) (y : Nat → ClassId) (m_heard : Int32) (m_outs : Int32) (m_bounds : Int32) (a_tape : Nat → Int32) (a_out : Nat → Int32) (a_behind : Nat → Int32) (a_ahead : Nat → Int32) (a_most : Nat → Int32) (a_left : Nat → Int32) (a_far : Nat → Int32) (a_quarrel : Nat → Int32) (a_early : Nat → Int32) (a_earlyLast : Nat → Int32) (res : Int32 × Int32 × Int32 × Int32 × Int32 × Int32 × Int32 × Int32 × Int32 × Int32 × Int64 × Int32 × Int32 × (Nat → Int64) × (Nat → Int32) × (Nat → Int32) × (Nat → Int32) × (Nat → Int32) × (Nat → Int32) × (Nat → Int32) × (Nat → Int32)) : State → Prop := MQ below (va_Qi (fun x (_ : Unit) => x = res.1) (fun _ t => va_P D vwCl (wls ad (eR ad y res.2.1 res.2.2.1 res.2.2.2.1 res.2.2.2.2.1 res.2.2.2.2.2.1 res.2.2.2.2.2.2.1 res.2.2.2.2.2.2.2.1 res.2.2.2.2.2.2.2.2.1 res.2.2.2.2.2.2.2.2.2.1 res.2.2.2.2.2.2.2.2.2.2.1 res.2.2.2.2.2.2.2.2.2.2.2.1 res.2.2.2.2.2.2.2.2.2.2.2.2.1 m_heard m_outs m_bounds a_tape res.2.2.2.2.2.2.2.2.2.2.2.2.2.1 res.2.2.2.2.2.2.2.2.2.2.2.2.2.2.1 res.2.2.2.2.2.2.2.2.2.2.2.2.2.2.2.1 res.2.2.2.2.2.2.2.2.2.2.2.2.2.2.2.2.1 res.2.2.2.2.2.2.2.2.2.2.2.2.2.2.2.2.2.1 res.2.2.2.2.2.2.2.2.2.2.2.2.2.2.2.2.2.2.1 res.2.2.2.2.2.2.2.2.2.2.2.2.2.2.2.2.2.2.2.1 res.2.2.2.2.2.2.2.2.2.2.2.2.2.2.2.2.2.2.2.2 a_out a_behind a_ahead a_most a_left a_far a_quarrel a_early a_earlyLast)) t.heap) (Aw ad 19 s.heap.size)) args s 0 0 (Aw ad 19 s.heap.size)
set_option maxHeartbeats 4000000 in
set_option maxRecDepth 100000 in
theorem kw_X12_tell_73 {p : Program} {l : Launch} {e : Env} {s : State} {m : MethodId} {args : Array Value} {below : List Frame} {meth : Method} {c : Code} {D : va_G} {ad : Nat → Nat} {y : Nat → ClassId} (C0 : CXT wsX12_tell cX12_tell RX12 5 (some .int) D (tyL y) (STR ad) p s m args meth c) {m_thrown : Int32} {m_taped : Int32} {m_size : Int32} {m_to : Int32} {m_from : Int32} {m_kind : Int32} {m_number : Int32} {m_fault : Int32} {m_place : Int32} {m_name : Int64} {m_happenings : Int32} {m_newHappenings : Int32} {m_heard : Int32} {m_outs : Int32} {m_bounds : Int32} {a_tape : Nat → Int32} {a_happened : Nat → Int64} {a_many : Nat → Int32} {a_out : Nat → Int32} {a_behind : Nat → Int32} {a_ahead : Nat → Int32} {a_most : Nat → Int32} {a_left : Nat → Int32} {a_far : Nat → Int32} {a_quarrel : Nat → Int32} {a_early : Nat → Int32} {a_earlyLast : Nat → Int32} {u1 : Int32} {res : Int32 × Int32 × Int32 × Int32 × Int32 × Int32 × Int32 × Int32 × Int32 × Int32 × Int64 × Int32 × Int32 × (Nat → Int64) × (Nat → Int32) × (Nat → Int32) × (Nat → Int32) × (Nat → Int32) × (Nat → Int32) × (Nat → Int32) × (Nat → Int32)} {sg : Int32 × (Nat → Int32) × (Nat → Int32) × (Nat → Int32) × (Nat → Int32) × (Nat → Int32) × (Nat → Int32)} {o : (Int32 × (Nat → Int32) × (Nat → Int32) × (Nat → Int32) × (Nat → Int32) × (Nat → Int32) × (Nat → Int32)) ⊕ (Int32 × (Nat → Int32) × (Nat → Int32) × (Nat → Int32) × (Nat → Int32) × (Nat → Int32) × (Nat → Int32))} (hf : f_X12_tell_l73 m_thrown m_taped m_size m_to m_from m_kind m_number m_fault m_place m_name m_happenings m_newHappenings a_tape a_happened a_many u1 sg = some o) {H : Heap} {locs : List Loc} {ls : Array Slot} (hw : Wo D ad (Aw ad 19 s.heap.size) (eR ad y m_thrown m_taped m_size m_to m_from m_kind m_number m_fault m_place m_name m_happenings m_newHappenings m_heard m_outs m_bounds a_tape a_happened a_many sg.2.1 sg.2.2.1 sg.2.2.2.1 sg.2.2.2.2.1 sg.2.2.2.2.2.1 sg.2.2.2.2.2.2 a_out a_behind a_ahead a_most a_left a_far a_quarrel a_early a_earlyLast) s.heap H locs) (hl : lv_has ls 5 [(0, .ref (ad 0)), (1, .int u1), (2, .int sg.1)]) (hcont : ∀ s2, o = .inl s2 → ∀ (H : Heap) (locs : List Loc) (ls : Array Slot), Wo D ad (Aw ad 19 s.heap.size) (eR ad y m_thrown m_taped m_size m_to m_from m_kind m_number m_fault m_place m_name m_happenings m_newHappenings m_heard m_outs m_bounds a_tape a_happened a_many s2.2.1 s2.2.2.1 s2.2.2.2.1 s2.2.2.2.2.1 s2.2.2.2.2.2.1 s2.2.2.2.2.2.2 a_out a_behind a_ahead a_most a_left a_far a_quarrel a_early a_earlyLast) s.heap H locs → lv_has ls 5 [(0, .ref (ad 0)), (1, .int u1), (2, .int s2.1)] → W p l e rm_X12_tell s m args below meth c H locs 0 0 (QM_X12_tell below args s D ad y (m_heard) (m_outs) (m_bounds) (a_tape) (a_out) (a_behind) (a_ahead) (a_most) (a_left) (a_far) (a_quarrel) (a_early) (a_earlyLast) res) (F0 m 73 ls [])) (hexit : ∀ t, o = .inr t → ∀ (H : Heap) (locs : List Loc) (ls : Array Slot), Wo D ad (Aw ad 19 s.heap.size) (eR ad y m_thrown m_taped m_size m_to m_from m_kind m_number m_fault m_place m_name m_happenings m_newHappenings m_heard m_outs m_bounds a_tape a_happened a_many t.2.1 t.2.2.1 t.2.2.2.1 t.2.2.2.2.1 t.2.2.2.2.2.1 t.2.2.2.2.2.2 a_out a_behind a_ahead a_most a_left a_far a_quarrel a_early a_earlyLast) s.heap H locs → lv_has ls 5 [(0, .ref (ad 0)), (1, .int u1), (2, .int t.1)] → W p l e rm_X12_tell s m args below meth c H locs 0 0 (QM_X12_tell below args s D ad y (m_heard) (m_outs) (m_bounds) (a_tape) (a_out) (a_behind) (a_ahead) (a_most) (a_left) (a_far) (a_quarrel) (a_early) (a_earlyLast) res) (F0 m 180 ls [])) : W p l e rm_X12_tell s m args below meth c H locs 0 0 (QM_X12_tell below args s D ad y (m_heard) (m_outs) (m_bounds) (a_tape) (a_out) (a_behind) (a_ahead) (a_most) (a_left) (a_far) (a_quarrel) (a_early) (a_earlyLast) res) (F0 m 73 ls []) := by
  obtain ⟨hx, hb, hr, hml, hown, hts, hlocks, hK, hst⟩ := id C0
  have i_X12 : ∀ w ∈ u_ws RX12 TX12 33, w ∈ wsX12_tell := by decide +kernel
  have L_17 := hts (.fieldLink RX12 17 "CaseOrderModel" "many" "[I") (by decide +kernel)
  have L_20 := hts (.fieldLink RX12 20 "CaseOrderModel" "sort" "[I") (by decide +kernel)
  have L_23 := hts (.fieldLink RX12 23 "CaseOrderModel" "one" "[I") (by decide +kernel)
  have L_26 := hts (.fieldLink RX12 26 "CaseOrderModel" "other" "[I") (by decide +kernel)
  have L_29 := hts (.fieldLink RX12 29 "CaseOrderModel" "low" "[I") (by decide +kernel)
  have L_32 := hts (.fieldLink RX12 32 "CaseOrderModel" "high" "[I") (by decide +kernel)
  have L_35 := hts (.fieldLink RX12 35 "CaseOrderModel" "begins" "[I") (by decide +kernel)
  unfold f_X12_tell_l73 at hf
  refine lv_iload_n hx hb dX12_tell_73 rfl (lv_at hl 2 rfl) ?_
  refine lv_aload_n hx hb dX12_tell_74 rfl (lv_at hl 0 rfl) ?_
  refine g_get hx hb hts i_X12 hown hK hw 0 eR_c0 rfl 14 (by decide) L_17 (fun _ h => h) rfl dX12_tell_75 ?_
  refine lv_iload_n hx hb dX12_tell_78 rfl (lv_at hl 1 rfl) ?_
  obtain ⟨g26, hf⟩ := gIn_some hf
  refine g_iald hx hb hK hw 3 1 eR_c3 rfl g26 dX12_tell_79 ?_
  refine lv_icmp_ge (tgt := 180) hx hb dX12_tell_80 (by decide) (fun c27 => ?_) (fun c27 => ?_)
  · have hf := it_p c27 hf
    exact hexit _ (so hf).symm _ _ _ hw (lv_sub hl [0, 1, 2] rfl)
  · have hf := it_n c27 hf
    refine lv_bipush (v := 12) hx hb dX12_tell_83 (by decide) ?_
    refine lv_iload_n hx hb dX12_tell_85 rfl (lv_at hl 1 rfl) ?_
    refine lv_imul hx hb dX12_tell_86 ?_
    refine lv_iload_n hx hb dX12_tell_87 rfl (lv_at hl 2 rfl) ?_
    refine lv_iadd hx hb dX12_tell_88 ?_
    refine lv_istore_n (lv' := [(3, .int ((12 * u1) + sg.1)), (0, .ref (ad 0)), (1, .int u1), (2, .int sg.1)]) hx hb dX12_tell_89 rfl hl (by decide) rfl (fun ls hl => ?_)
    refine lv_bipush (v := 72) hx hb dX12_tell_90 (by decide) ?_
    refine lv_iload_n hx hb dX12_tell_92 rfl (lv_at hl 3 rfl) ?_
    refine lv_iadd hx hb dX12_tell_93 ?_
    refine lv_istore (lv' := [(4, .int (72 + sg.1)), (3, .int ((12 * u1) + sg.1)), (0, .ref (ad 0)), (1, .int u1), (2, .int sg.1)]) hx hb dX12_tell_94 hl (by decide) rfl (fun ls hl => ?_)
    refine lv_aload_n hx hb dX12_tell_96 rfl (lv_at hl 2 rfl) ?_
    refine g_get hx hb hts i_X12 hown hK hw 0 eR_c0 rfl 15 (by decide) L_20 (fun _ h => h) rfl dX12_tell_97 ?_
    refine lv_iload_n hx hb dX12_tell_100 rfl (lv_at hl 1 rfl) ?_
    refine lv_aload_n hx hb dX12_tell_101 rfl (lv_at hl 2 rfl) ?_
    refine g_get hx hb hts i_X12 hown hK hw 0 eR_c0 rfl 15 (by decide) L_20 (fun _ h => h) rfl dX12_tell_102 ?_
    refine lv_iload hx hb dX12_tell_105 (lv_at hl 0 rfl) ?_
    obtain ⟨g28, hf⟩ := gIn_some hf
    refine g_iald hx hb hK hw 4 1 eR_c4 rfl g28 dX12_tell_107 ?_
    obtain ⟨g29, hf⟩ := gIn_some hf
    refine g_iast hx hb hK hw 4 1 eR_c4 rfl g29 dX12_tell_108 (fun H locs hw => ?_)
    have hw : Wo D ad (Aw ad 19 s.heap.size) (eR ad y m_thrown m_taped m_size m_to m_from m_kind m_number m_fault m_place m_name m_happenings m_newHappenings m_heard m_outs m_bounds a_tape a_happened a_many (upd sg.2.1 (Int32.toNatClampNeg ((12 * u1) + sg.1)) (sg.2.1 (Int32.toNatClampNeg (72 + sg.1)))) sg.2.2.1 sg.2.2.2.1 sg.2.2.2.2.1 sg.2.2.2.2.2.1 sg.2.2.2.2.2.2 a_out a_behind a_ahead a_most a_left a_far a_quarrel a_early a_earlyLast) s.heap H locs := hw
    refine lv_aload_n hx hb dX12_tell_109 rfl (lv_at hl 2 rfl) ?_
    refine g_get hx hb hts i_X12 hown hK hw 0 eR_c0 rfl 16 (by decide) L_23 (fun _ h => h) rfl dX12_tell_110 ?_
    refine lv_iload_n hx hb dX12_tell_113 rfl (lv_at hl 1 rfl) ?_
    refine lv_aload_n hx hb dX12_tell_114 rfl (lv_at hl 2 rfl) ?_
    refine g_get hx hb hts i_X12 hown hK hw 0 eR_c0 rfl 16 (by decide) L_23 (fun _ h => h) rfl dX12_tell_115 ?_
    refine lv_iload hx hb dX12_tell_118 (lv_at hl 0 rfl) ?_
    obtain ⟨g30, hf⟩ := gIn_some hf
    refine g_iald hx hb hK hw 5 1 eR_c5 rfl g30 dX12_tell_120 ?_
    obtain ⟨g31, hf⟩ := gIn_some hf
    refine g_iast hx hb hK hw 5 1 eR_c5 rfl g31 dX12_tell_121 (fun H locs hw => ?_)
    have hw : Wo D ad (Aw ad 19 s.heap.size) (eR ad y m_thrown m_taped m_size m_to m_from m_kind m_number m_fault m_place m_name m_happenings m_newHappenings m_heard m_outs m_bounds a_tape a_happened a_many (upd sg.2.1 (Int32.toNatClampNeg ((12 * u1) + sg.1)) (sg.2.1 (Int32.toNatClampNeg (72 + sg.1)))) (upd sg.2.2.1 (Int32.toNatClampNeg ((12 * u1) + sg.1)) (sg.2.2.1 (Int32.toNatClampNeg (72 + sg.1)))) sg.2.2.2.1 sg.2.2.2.2.1 sg.2.2.2.2.2.1 sg.2.2.2.2.2.2 a_out a_behind a_ahead a_most a_left a_far a_quarrel a_early a_earlyLast) s.heap H locs := hw
    refine lv_aload_n hx hb dX12_tell_122 rfl (lv_at hl 2 rfl) ?_
    refine g_get hx hb hts i_X12 hown hK hw 0 eR_c0 rfl 17 (by decide) L_26 (fun _ h => h) rfl dX12_tell_123 ?_
    refine lv_iload_n hx hb dX12_tell_126 rfl (lv_at hl 1 rfl) ?_
    refine lv_aload_n hx hb dX12_tell_127 rfl (lv_at hl 2 rfl) ?_
    refine g_get hx hb hts i_X12 hown hK hw 0 eR_c0 rfl 17 (by decide) L_26 (fun _ h => h) rfl dX12_tell_128 ?_
    refine lv_iload hx hb dX12_tell_131 (lv_at hl 0 rfl) ?_
    obtain ⟨g32, hf⟩ := gIn_some hf
    refine g_iald hx hb hK hw 6 1 eR_c6 rfl g32 dX12_tell_133 ?_
    obtain ⟨g33, hf⟩ := gIn_some hf
    refine g_iast hx hb hK hw 6 1 eR_c6 rfl g33 dX12_tell_134 (fun H locs hw => ?_)
    have hw : Wo D ad (Aw ad 19 s.heap.size) (eR ad y m_thrown m_taped m_size m_to m_from m_kind m_number m_fault m_place m_name m_happenings m_newHappenings m_heard m_outs m_bounds a_tape a_happened a_many (upd sg.2.1 (Int32.toNatClampNeg ((12 * u1) + sg.1)) (sg.2.1 (Int32.toNatClampNeg (72 + sg.1)))) (upd sg.2.2.1 (Int32.toNatClampNeg ((12 * u1) + sg.1)) (sg.2.2.1 (Int32.toNatClampNeg (72 + sg.1)))) (upd sg.2.2.2.1 (Int32.toNatClampNeg ((12 * u1) + sg.1)) (sg.2.2.2.1 (Int32.toNatClampNeg (72 + sg.1)))) sg.2.2.2.2.1 sg.2.2.2.2.2.1 sg.2.2.2.2.2.2 a_out a_behind a_ahead a_most a_left a_far a_quarrel a_early a_earlyLast) s.heap H locs := hw
    refine lv_aload_n hx hb dX12_tell_135 rfl (lv_at hl 2 rfl) ?_
    refine g_get hx hb hts i_X12 hown hK hw 0 eR_c0 rfl 18 (by decide) L_29 (fun _ h => h) rfl dX12_tell_136 ?_
    refine lv_iload_n hx hb dX12_tell_139 rfl (lv_at hl 1 rfl) ?_
    refine lv_aload_n hx hb dX12_tell_140 rfl (lv_at hl 2 rfl) ?_
    refine g_get hx hb hts i_X12 hown hK hw 0 eR_c0 rfl 18 (by decide) L_29 (fun _ h => h) rfl dX12_tell_141 ?_
    refine lv_iload hx hb dX12_tell_144 (lv_at hl 0 rfl) ?_
    obtain ⟨g34, hf⟩ := gIn_some hf
    refine g_iald hx hb hK hw 7 1 eR_c7 rfl g34 dX12_tell_146 ?_
    obtain ⟨g35, hf⟩ := gIn_some hf
    refine g_iast hx hb hK hw 7 1 eR_c7 rfl g35 dX12_tell_147 (fun H locs hw => ?_)
    have hw : Wo D ad (Aw ad 19 s.heap.size) (eR ad y m_thrown m_taped m_size m_to m_from m_kind m_number m_fault m_place m_name m_happenings m_newHappenings m_heard m_outs m_bounds a_tape a_happened a_many (upd sg.2.1 (Int32.toNatClampNeg ((12 * u1) + sg.1)) (sg.2.1 (Int32.toNatClampNeg (72 + sg.1)))) (upd sg.2.2.1 (Int32.toNatClampNeg ((12 * u1) + sg.1)) (sg.2.2.1 (Int32.toNatClampNeg (72 + sg.1)))) (upd sg.2.2.2.1 (Int32.toNatClampNeg ((12 * u1) + sg.1)) (sg.2.2.2.1 (Int32.toNatClampNeg (72 + sg.1)))) (upd sg.2.2.2.2.1 (Int32.toNatClampNeg ((12 * u1) + sg.1)) (sg.2.2.2.2.1 (Int32.toNatClampNeg (72 + sg.1)))) sg.2.2.2.2.2.1 sg.2.2.2.2.2.2 a_out a_behind a_ahead a_most a_left a_far a_quarrel a_early a_earlyLast) s.heap H locs := hw
    refine lv_aload_n hx hb dX12_tell_148 rfl (lv_at hl 2 rfl) ?_
    refine g_get hx hb hts i_X12 hown hK hw 0 eR_c0 rfl 19 (by decide) L_32 (fun _ h => h) rfl dX12_tell_149 ?_
    refine lv_iload_n hx hb dX12_tell_152 rfl (lv_at hl 1 rfl) ?_
    refine lv_aload_n hx hb dX12_tell_153 rfl (lv_at hl 2 rfl) ?_
    refine g_get hx hb hts i_X12 hown hK hw 0 eR_c0 rfl 19 (by decide) L_32 (fun _ h => h) rfl dX12_tell_154 ?_
    refine lv_iload hx hb dX12_tell_157 (lv_at hl 0 rfl) ?_
    obtain ⟨g36, hf⟩ := gIn_some hf
    refine g_iald hx hb hK hw 8 1 eR_c8 rfl g36 dX12_tell_159 ?_
    obtain ⟨g37, hf⟩ := gIn_some hf
    refine g_iast hx hb hK hw 8 1 eR_c8 rfl g37 dX12_tell_160 (fun H locs hw => ?_)
    have hw : Wo D ad (Aw ad 19 s.heap.size) (eR ad y m_thrown m_taped m_size m_to m_from m_kind m_number m_fault m_place m_name m_happenings m_newHappenings m_heard m_outs m_bounds a_tape a_happened a_many (upd sg.2.1 (Int32.toNatClampNeg ((12 * u1) + sg.1)) (sg.2.1 (Int32.toNatClampNeg (72 + sg.1)))) (upd sg.2.2.1 (Int32.toNatClampNeg ((12 * u1) + sg.1)) (sg.2.2.1 (Int32.toNatClampNeg (72 + sg.1)))) (upd sg.2.2.2.1 (Int32.toNatClampNeg ((12 * u1) + sg.1)) (sg.2.2.2.1 (Int32.toNatClampNeg (72 + sg.1)))) (upd sg.2.2.2.2.1 (Int32.toNatClampNeg ((12 * u1) + sg.1)) (sg.2.2.2.2.1 (Int32.toNatClampNeg (72 + sg.1)))) (upd sg.2.2.2.2.2.1 (Int32.toNatClampNeg ((12 * u1) + sg.1)) (sg.2.2.2.2.2.1 (Int32.toNatClampNeg (72 + sg.1)))) sg.2.2.2.2.2.2 a_out a_behind a_ahead a_most a_left a_far a_quarrel a_early a_earlyLast) s.heap H locs := hw
    refine lv_aload_n hx hb dX12_tell_161 rfl (lv_at hl 2 rfl) ?_
    refine g_get hx hb hts i_X12 hown hK hw 0 eR_c0 rfl 20 (by decide) L_35 (fun _ h => h) rfl dX12_tell_162 ?_
    refine lv_iload_n hx hb dX12_tell_165 rfl (lv_at hl 1 rfl) ?_
    refine lv_aload_n hx hb dX12_tell_166 rfl (lv_at hl 2 rfl) ?_
    refine g_get hx hb hts i_X12 hown hK hw 0 eR_c0 rfl 20 (by decide) L_35 (fun _ h => h) rfl dX12_tell_167 ?_
    refine lv_iload hx hb dX12_tell_170 (lv_at hl 0 rfl) ?_
    obtain ⟨g38, hf⟩ := gIn_some hf
    refine g_iald hx hb hK hw 9 1 eR_c9 rfl g38 dX12_tell_172 ?_
    obtain ⟨g39, hf⟩ := gIn_some hf
    refine g_iast hx hb hK hw 9 1 eR_c9 rfl g39 dX12_tell_173 (fun H locs hw => ?_)
    have hw : Wo D ad (Aw ad 19 s.heap.size) (eR ad y m_thrown m_taped m_size m_to m_from m_kind m_number m_fault m_place m_name m_happenings m_newHappenings m_heard m_outs m_bounds a_tape a_happened a_many (upd sg.2.1 (Int32.toNatClampNeg ((12 * u1) + sg.1)) (sg.2.1 (Int32.toNatClampNeg (72 + sg.1)))) (upd sg.2.2.1 (Int32.toNatClampNeg ((12 * u1) + sg.1)) (sg.2.2.1 (Int32.toNatClampNeg (72 + sg.1)))) (upd sg.2.2.2.1 (Int32.toNatClampNeg ((12 * u1) + sg.1)) (sg.2.2.2.1 (Int32.toNatClampNeg (72 + sg.1)))) (upd sg.2.2.2.2.1 (Int32.toNatClampNeg ((12 * u1) + sg.1)) (sg.2.2.2.2.1 (Int32.toNatClampNeg (72 + sg.1)))) (upd sg.2.2.2.2.2.1 (Int32.toNatClampNeg ((12 * u1) + sg.1)) (sg.2.2.2.2.2.1 (Int32.toNatClampNeg (72 + sg.1)))) (upd sg.2.2.2.2.2.2 (Int32.toNatClampNeg ((12 * u1) + sg.1)) (sg.2.2.2.2.2.2 (Int32.toNatClampNeg (72 + sg.1)))) a_out a_behind a_ahead a_most a_left a_far a_quarrel a_early a_earlyLast) s.heap H locs := hw
    refine lv_iinc (v := sg.1 + 1) (lv' := [(2, .int (sg.1 + 1)), (4, .int (72 + sg.1)), (3, .int ((12 * u1) + sg.1)), (0, .ref (ad 0)), (1, .int u1)]) hx hb dX12_tell_174 hl (k := 4) rfl rfl (by decide) rfl (fun ls hl => ?_)
    refine lv_goto (tgt := 73) hx hb dX12_tell_177 (by decide) ?_
    exact hcont _ (so hf).symm _ _ _ hw (lv_sub hl [3, 4, 0] rfl)
set_option maxHeartbeats 4000000 in
theorem kl_X12_tell_73 {p : Program} {l : Launch} {e : Env} {s : State} {m : MethodId} {args : Array Value} {below : List Frame} {meth : Method} {c : Code} {D : va_G} {ad : Nat → Nat} {y : Nat → ClassId} (C0 : CXT wsX12_tell cX12_tell RX12 5 (some .int) D (tyL y) (STR ad) p s m args meth c) {m_thrown : Int32} {m_taped : Int32} {m_size : Int32} {m_to : Int32} {m_from : Int32} {m_kind : Int32} {m_number : Int32} {m_fault : Int32} {m_place : Int32} {m_name : Int64} {m_happenings : Int32} {m_newHappenings : Int32} {m_heard : Int32} {m_outs : Int32} {m_bounds : Int32} {a_tape : Nat → Int32} {a_happened : Nat → Int64} {a_many : Nat → Int32} {a_out : Nat → Int32} {a_behind : Nat → Int32} {a_ahead : Nat → Int32} {a_most : Nat → Int32} {a_left : Nat → Int32} {a_far : Nat → Int32} {a_quarrel : Nat → Int32} {a_early : Nat → Int32} {a_earlyLast : Nat → Int32} {u1 : Int32} {res : Int32 × Int32 × Int32 × Int32 × Int32 × Int32 × Int32 × Int32 × Int32 × Int32 × Int64 × Int32 × Int32 × (Nat → Int64) × (Nat → Int32) × (Nat → Int32) × (Nat → Int32) × (Nat → Int32) × (Nat → Int32) × (Nat → Int32) × (Nat → Int32)} : ∀ (n : Nat) (sg : Int32 × (Nat → Int32) × (Nat → Int32) × (Nat → Int32) × (Nat → Int32) × (Nat → Int32) × (Nat → Int32)) (q : Int32 × (Nat → Int32) × (Nat → Int32) × (Nat → Int32) × (Nat → Int32) × (Nat → Int32) × (Nat → Int32)), lp (f_X12_tell_l73 m_thrown m_taped m_size m_to m_from m_kind m_number m_fault m_place m_name m_happenings m_newHappenings a_tape a_happened a_many u1) n sg = some q → ∀ (H : Heap) (locs : List Loc) (ls : Array Slot), Wo D ad (Aw ad 19 s.heap.size) (eR ad y m_thrown m_taped m_size m_to m_from m_kind m_number m_fault m_place m_name m_happenings m_newHappenings m_heard m_outs m_bounds a_tape a_happened a_many sg.2.1 sg.2.2.1 sg.2.2.2.1 sg.2.2.2.2.1 sg.2.2.2.2.2.1 sg.2.2.2.2.2.2 a_out a_behind a_ahead a_most a_left a_far a_quarrel a_early a_earlyLast) s.heap H locs → lv_has ls 5 [(0, .ref (ad 0)), (1, .int u1), (2, .int sg.1)] → (∀ (H : Heap) (locs : List Loc) (ls : Array Slot), Wo D ad (Aw ad 19 s.heap.size) (eR ad y m_thrown m_taped m_size m_to m_from m_kind m_number m_fault m_place m_name m_happenings m_newHappenings m_heard m_outs m_bounds a_tape a_happened a_many q.2.1 q.2.2.1 q.2.2.2.1 q.2.2.2.2.1 q.2.2.2.2.2.1 q.2.2.2.2.2.2 a_out a_behind a_ahead a_most a_left a_far a_quarrel a_early a_earlyLast) s.heap H locs → lv_has ls 5 [(0, .ref (ad 0)), (1, .int u1), (2, .int q.1)] → W p l e rm_X12_tell s m args below meth c H locs 0 0 (QM_X12_tell below args s D ad y (m_heard) (m_outs) (m_bounds) (a_tape) (a_out) (a_behind) (a_ahead) (a_most) (a_left) (a_far) (a_quarrel) (a_early) (a_earlyLast) res) (F0 m 180 ls [])) → W p l e rm_X12_tell s m args below meth c H locs 0 0 (QM_X12_tell below args s D ad y (m_heard) (m_outs) (m_bounds) (a_tape) (a_out) (a_behind) (a_ahead) (a_most) (a_left) (a_far) (a_quarrel) (a_early) (a_earlyLast) res) (F0 m 73 ls []) := by
  intro n
  induction n with
  | zero => intro sg q hf; exact absurd hf lp_zero
  | succ n ih =>
    intro sg q hf H locs ls hw hl hexit
    rcases lp_succ hf with ⟨sg2, h1, h2⟩ | h1
    · exact kw_X12_tell_73 C0 h1 hw hl (fun s2 e2 H locs ls hw hl => by cases e2; exact ih _ q h2 H locs ls hw hl hexit) (fun t e2 => by cases e2)
    · exact kw_X12_tell_73 C0 h1 hw hl (fun s2 e2 => by cases e2) (fun t e2 => by cases e2; exact hexit)
set_option maxHeartbeats 4000000 in
set_option maxRecDepth 100000 in
theorem ke_X12_tell {p : Program} {l : Launch} {e : Env} {s : State} {m : MethodId} {args : Array Value} {below : List Frame} {meth : Method} {c : Code} {D : va_G} {ad : Nat → Nat} {y : Nat → ClassId} (C0 : CXT wsX12_tell cX12_tell RX12 5 (some .int) D (tyL y) (STR ad) p s m args meth c) {m_thrown : Int32} {m_taped : Int32} {m_size : Int32} {m_to : Int32} {m_from : Int32} {m_kind : Int32} {m_number : Int32} {m_fault : Int32} {m_place : Int32} {m_name : Int64} {m_happenings : Int32} {m_newHappenings : Int32} {m_heard : Int32} {m_outs : Int32} {m_bounds : Int32} {a_tape : Nat → Int32} {a_happened : Nat → Int64} {a_many : Nat → Int32} {a_sort : Nat → Int32} {a_one : Nat → Int32} {a_other : Nat → Int32} {a_low : Nat → Int32} {a_high : Nat → Int32} {a_begins : Nat → Int32} {a_out : Nat → Int32} {a_behind : Nat → Int32} {a_ahead : Nat → Int32} {a_most : Nat → Int32} {a_left : Nat → Int32} {a_far : Nat → Int32} {a_quarrel : Nat → Int32} {a_early : Nat → Int32} {a_earlyLast : Nat → Int32} {p1 : Int32} {res : Int32 × Int32 × Int32 × Int32 × Int32 × Int32 × Int32 × Int32 × Int32 × Int32 × Int64 × Int32 × Int32 × (Nat → Int64) × (Nat → Int32) × (Nat → Int32) × (Nat → Int32) × (Nat → Int32) × (Nat → Int32) × (Nat → Int32) × (Nat → Int32)} (hf : f_X12_tell m_thrown m_taped m_size m_to m_from m_kind m_number m_fault m_place m_name m_happenings m_newHappenings a_tape a_happened a_many a_sort a_one a_other a_low a_high a_begins p1 = some res) {H : Heap} {locs : List Loc} {ls : Array Slot} (hw : Wo D ad (Aw ad 19 s.heap.size) (eR ad y m_thrown m_taped m_size m_to m_from m_kind m_number m_fault m_place m_name m_happenings m_newHappenings m_heard m_outs m_bounds a_tape a_happened a_many a_sort a_one a_other a_low a_high a_begins a_out a_behind a_ahead a_most a_left a_far a_quarrel a_early a_earlyLast) s.heap H locs) (hl : lv_has ls 5 [(0, .ref (ad 0)), (1, .int p1)]) : W p l e rm_X12_tell s m args below meth c H locs 0 0 (QM_X12_tell below args s D ad y (m_heard) (m_outs) (m_bounds) (a_tape) (a_out) (a_behind) (a_ahead) (a_most) (a_left) (a_far) (a_quarrel) (a_early) (a_earlyLast) res) (F0 m 0 ls []) := by
  obtain ⟨hx, hb, hr, hml, hown, hts, hlocks, hK, hst⟩ := id C0
  have i_X12 : ∀ w ∈ u_ws RX12 TX12 33, w ∈ wsX12_tell := by decide +kernel
  have L_70 := hts (.fieldLink RX12 70 "CaseOrderModel" "thrown" "I") (by decide +kernel)
  have L_73 := hts (.fieldLink RX12 73 "CaseOrderModel" "taped" "I") (by decide +kernel)
  have L_83 := hts (.fieldLink RX12 83 "CaseOrderModel" "size" "I") (by decide +kernel)
  have L_144 := hts (.fieldLink RX12 144 "CaseOrderModel" "fault" "I") (by decide +kernel)
  have L_157 := hts (.fieldLink RX12 157 "CaseOrderModel" "newHappenings" "I") (by decide +kernel)
  have L_181 := hts (.fieldLink RX12 181 "CaseOrderModel" "happenings" "I") (by decide +kernel)
  have L_17 := hts (.fieldLink RX12 17 "CaseOrderModel" "many" "[I") (by decide +kernel)
  have L_147 := hts (.fieldLink RX12 147 "CaseOrderModel" "place" "I") (by decide +kernel)
  unfold f_X12_tell at hf
  refine lv_iload_n hx hb dX12_tell_0 rfl (lv_at hl 1 rfl) ?_
  obtain ⟨q20, hq20, hf⟩ := bd hf
  refine g_Si (As := [.int p1]) (rest := []) ⟨hx, hb, hml, hown, hts⟩ (k_X12_isTeller hq20) (va_cwS 1 hts gX12_tell_X12_isTeller rfl rfl rfl (by decide +kernel) ⟨Nat.le_of_ble_eq_true rfl, Nat.le_of_ble_eq_true rfl⟩) STR_ok hst hK hw rfl rfl hl.1 rfl (Nat.le_of_ble_eq_true rfl) dX12_tell_1 ⟨Nat.zero_le _, Nat.zero_le _⟩ (fun H locs hw => ?_)
  refine lv_if_ne (tgt := 13) hx hb dX12_tell_4 (by decide) (fun c21 => ?_) (fun c21 => ?_)
  · have hf := it_n c21 hf
    refine lv_aload_n hx hb dX12_tell_13 rfl (lv_at hl 0 rfl) ?_
    refine lv_iconst (v := 0) hx hb dX12_tell_14 (by decide) ?_
    refine g_put (ty := .int) hx hb hts i_X12 tyX12 tyX12_ok nmX12 hown hK hw 0 eR_c0 rfl 0 (by decide) L_70 (fun _ h => h) rfl (by decide +kernel) rfl rfl (Nat.le_of_ble_eq_true rfl) dX12_tell_15 (fun H locs hw => ?_)
    have hw : Wo D ad (Aw ad 19 s.heap.size) (eR ad y 0 m_taped m_size m_to m_from m_kind m_number m_fault m_place m_name m_happenings m_newHappenings m_heard m_outs m_bounds a_tape a_happened a_many a_sort a_one a_other a_low a_high a_begins a_out a_behind a_ahead a_most a_left a_far a_quarrel a_early a_earlyLast) s.heap H locs := hw
    refine lv_aload_n hx hb dX12_tell_18 rfl (lv_at hl 0 rfl) ?_
    refine lv_aload_n hx hb dX12_tell_19 rfl (lv_at hl 0 rfl) ?_
    refine g_get hx hb hts i_X12 hown hK hw 0 eR_c0 rfl 2 (by decide) L_73 (fun _ h => h) rfl dX12_tell_20 ?_
    refine g_put (ty := .int) hx hb hts i_X12 tyX12 tyX12_ok nmX12 hown hK hw 0 eR_c0 rfl 3 (by decide) L_83 (fun _ h => h) rfl (by decide +kernel) rfl rfl (Nat.le_of_ble_eq_true rfl) dX12_tell_23 (fun H locs hw => ?_)
    have hw : Wo D ad (Aw ad 19 s.heap.size) (eR ad y 0 m_taped m_taped m_to m_from m_kind m_number m_fault m_place m_name m_happenings m_newHappenings m_heard m_outs m_bounds a_tape a_happened a_many a_sort a_one a_other a_low a_high a_begins a_out a_behind a_ahead a_most a_left a_far a_quarrel a_early a_earlyLast) s.heap H locs := hw
    refine lv_aload_n hx hb dX12_tell_26 rfl (lv_at hl 0 rfl) ?_
    refine lv_iconst (v := 0) hx hb dX12_tell_27 (by decide) ?_
    refine g_put (ty := .int) hx hb hts i_X12 tyX12 tyX12_ok nmX12 hown hK hw 0 eR_c0 rfl 2 (by decide) L_73 (fun _ h => h) rfl (by decide +kernel) rfl rfl (Nat.le_of_ble_eq_true rfl) dX12_tell_28 (fun H locs hw => ?_)
    have hw : Wo D ad (Aw ad 19 s.heap.size) (eR ad y 0 0 m_taped m_to m_from m_kind m_number m_fault m_place m_name m_happenings m_newHappenings m_heard m_outs m_bounds a_tape a_happened a_many a_sort a_one a_other a_low a_high a_begins a_out a_behind a_ahead a_most a_left a_far a_quarrel a_early a_earlyLast) s.heap H locs := hw
    refine lv_aload_n hx hb dX12_tell_31 rfl (lv_at hl 0 rfl) ?_
    refine lv_iconst (v := 0) hx hb dX12_tell_32 (by decide) ?_
    refine g_put (ty := .int) hx hb hts i_X12 tyX12 tyX12_ok nmX12 hown hK hw 0 eR_c0 rfl 8 (by decide) L_144 (fun _ h => h) rfl (by decide +kernel) rfl rfl (Nat.le_of_ble_eq_true rfl) dX12_tell_33 (fun H locs hw => ?_)
    have hw : Wo D ad (Aw ad 19 s.heap.size) (eR ad y 0 0 m_taped m_to m_from m_kind m_number 0 m_place m_name m_happenings m_newHappenings m_heard m_outs m_bounds a_tape a_happened a_many a_sort a_one a_other a_low a_high a_begins a_out a_behind a_ahead a_most a_left a_far a_quarrel a_early a_earlyLast) s.heap H locs := hw
    refine lv_aload_n hx hb dX12_tell_36 rfl (lv_at hl 0 rfl) ?_
    obtain ⟨q22, hq22, hf⟩ := bd hf
    refine g_Vi (As := []) (rest := []) ⟨hx, hb, hml, hown, hts⟩ (k_X12_readText hq22) (cwV 0 hts gX12_tell_X12_readText rfl rfl rfl (by decide +kernel) ⟨Nat.le_of_ble_eq_true rfl, Nat.le_of_ble_eq_true rfl⟩) STR_ok hst hK hw rfl eR_c0 rfl rfl hl.1 rfl (Nat.le_of_ble_eq_true rfl) dX12_tell_37 ⟨Nat.zero_le _, Nat.zero_le _⟩ (fun H locs hw => ?_)
    have hw : Wo D ad (Aw ad 19 s.heap.size) (eR ad y 0 0 m_taped q22.2.1 q22.2.2.1 q22.2.2.2.1 q22.2.2.2.2.1 q22.2.2.2.2.2.1 q22.2.2.2.2.2.2.1 q22.2.2.2.2.2.2.2.1 m_happenings q22.2.2.2.2.2.2.2.2.1 m_heard m_outs m_bounds a_tape q22.2.2.2.2.2.2.2.2.2.1 q22.2.2.2.2.2.2.2.2.2.2.1 q22.2.2.2.2.2.2.2.2.2.2.2.1 q22.2.2.2.2.2.2.2.2.2.2.2.2.1 q22.2.2.2.2.2.2.2.2.2.2.2.2.2.1 q22.2.2.2.2.2.2.2.2.2.2.2.2.2.2.1 q22.2.2.2.2.2.2.2.2.2.2.2.2.2.2.2.1 q22.2.2.2.2.2.2.2.2.2.2.2.2.2.2.2.2 a_out a_behind a_ahead a_most a_left a_far a_quarrel a_early a_earlyLast) s.heap H locs := hw
    refine lv_if_ne (tgt := 50) hx hb dX12_tell_40 (by decide) (fun c23 => ?_) (fun c23 => ?_)
    · have hf := it_n c23 hf
      refine lv_aload_n hx hb dX12_tell_50 rfl (lv_at hl 0 rfl) ?_
      refine lv_aload_n hx hb dX12_tell_51 rfl (lv_at hl 0 rfl) ?_
      refine g_get hx hb hts i_X12 hown hK hw 0 eR_c0 rfl 13 (by decide) L_157 (fun _ h => h) rfl dX12_tell_52 ?_
      refine g_put (ty := .int) hx hb hts i_X12 tyX12 tyX12_ok nmX12 hown hK hw 0 eR_c0 rfl 12 (by decide) L_181 (fun _ h => h) rfl (by decide +kernel) rfl rfl (Nat.le_of_ble_eq_true rfl) dX12_tell_55 (fun H locs hw => ?_)
      have hw : Wo D ad (Aw ad 19 s.heap.size) (eR ad y 0 0 m_taped q22.2.1 q22.2.2.1 q22.2.2.2.1 q22.2.2.2.2.1 q22.2.2.2.2.2.1 q22.2.2.2.2.2.2.1 q22.2.2.2.2.2.2.2.1 q22.2.2.2.2.2.2.2.2.1 q22.2.2.2.2.2.2.2.2.1 m_heard m_outs m_bounds a_tape q22.2.2.2.2.2.2.2.2.2.1 q22.2.2.2.2.2.2.2.2.2.2.1 q22.2.2.2.2.2.2.2.2.2.2.2.1 q22.2.2.2.2.2.2.2.2.2.2.2.2.1 q22.2.2.2.2.2.2.2.2.2.2.2.2.2.1 q22.2.2.2.2.2.2.2.2.2.2.2.2.2.2.1 q22.2.2.2.2.2.2.2.2.2.2.2.2.2.2.2.1 q22.2.2.2.2.2.2.2.2.2.2.2.2.2.2.2.2 a_out a_behind a_ahead a_most a_left a_far a_quarrel a_early a_earlyLast) s.heap H locs := hw
      refine lv_aload_n hx hb dX12_tell_58 rfl (lv_at hl 0 rfl) ?_
      refine g_get hx hb hts i_X12 hown hK hw 0 eR_c0 rfl 14 (by decide) L_17 (fun _ h => h) rfl dX12_tell_59 ?_
      refine lv_iload_n hx hb dX12_tell_62 rfl (lv_at hl 1 rfl) ?_
      refine lv_aload_n hx hb dX12_tell_63 rfl (lv_at hl 0 rfl) ?_
      refine g_get hx hb hts i_X12 hown hK hw 0 eR_c0 rfl 14 (by decide) L_17 (fun _ h => h) rfl dX12_tell_64 ?_
      refine lv_bipush (v := 6) hx hb dX12_tell_67 (by decide) ?_
      obtain ⟨g24, hf⟩ := gIn_some hf
      refine g_iald hx hb hK hw 3 1 eR_c3 rfl g24 dX12_tell_69 ?_
      obtain ⟨g25, hf⟩ := gIn_some hf
      refine g_iast hx hb hK hw 3 1 eR_c3 rfl g25 dX12_tell_70 (fun H locs hw => ?_)
      have hw : Wo D ad (Aw ad 19 s.heap.size) (eR ad y 0 0 m_taped q22.2.1 q22.2.2.1 q22.2.2.2.1 q22.2.2.2.2.1 q22.2.2.2.2.2.1 q22.2.2.2.2.2.2.1 q22.2.2.2.2.2.2.2.1 q22.2.2.2.2.2.2.2.2.1 q22.2.2.2.2.2.2.2.2.1 m_heard m_outs m_bounds a_tape q22.2.2.2.2.2.2.2.2.2.1 (upd q22.2.2.2.2.2.2.2.2.2.2.1 (Int32.toNatClampNeg p1) (q22.2.2.2.2.2.2.2.2.2.2.1 (Int32.toNatClampNeg 6))) q22.2.2.2.2.2.2.2.2.2.2.2.1 q22.2.2.2.2.2.2.2.2.2.2.2.2.1 q22.2.2.2.2.2.2.2.2.2.2.2.2.2.1 q22.2.2.2.2.2.2.2.2.2.2.2.2.2.2.1 q22.2.2.2.2.2.2.2.2.2.2.2.2.2.2.2.1 q22.2.2.2.2.2.2.2.2.2.2.2.2.2.2.2.2 a_out a_behind a_ahead a_most a_left a_far a_quarrel a_early a_earlyLast) s.heap H locs := hw
      refine lv_iconst (v := 0) hx hb dX12_tell_71 (by decide) ?_
      refine lv_istore_n (lv' := [(2, .int 0), (0, .ref (ad 0)), (1, .int p1)]) hx hb dX12_tell_72 rfl hl (by decide) rfl (fun ls hl => ?_)
      obtain ⟨q40, hq40, hf⟩ := bd hf
      refine kl_X12_tell_73 C0 gFU _ _ hq40 _ _ _ hw (lv_sub hl [1, 2, 0] rfl) (fun H locs ls hw hl => ?_)
      have hw : Wo D ad (Aw ad 19 s.heap.size) (eR ad y 0 0 m_taped q22.2.1 q22.2.2.1 q22.2.2.2.1 q22.2.2.2.2.1 q22.2.2.2.2.2.1 q22.2.2.2.2.2.2.1 q22.2.2.2.2.2.2.2.1 q22.2.2.2.2.2.2.2.2.1 q22.2.2.2.2.2.2.2.2.1 m_heard m_outs m_bounds a_tape q22.2.2.2.2.2.2.2.2.2.1 (upd q22.2.2.2.2.2.2.2.2.2.2.1 (Int32.toNatClampNeg p1) (q22.2.2.2.2.2.2.2.2.2.2.1 (Int32.toNatClampNeg 6))) q40.2.1 q40.2.2.1 q40.2.2.2.1 q40.2.2.2.2.1 q40.2.2.2.2.2.1 q40.2.2.2.2.2.2 a_out a_behind a_ahead a_most a_left a_far a_quarrel a_early a_earlyLast) s.heap H locs := hw
      have hl : lv_has ls 5 [(0, .ref (ad 0)), (1, .int p1), (2, .int q40.1)] := hl
      refine lv_aload_n hx hb dX12_tell_180 rfl (lv_at hl 0 rfl) ?_
      refine g_get hx hb hts i_X12 hown hK hw 0 eR_c0 rfl 14 (by decide) L_17 (fun _ h => h) rfl dX12_tell_181 ?_
      refine lv_iload_n hx hb dX12_tell_184 rfl (lv_at hl 1 rfl) ?_
      obtain ⟨g41, hf⟩ := gIn_some hf
      refine g_iald hx hb hK hw 3 1 eR_c3 rfl g41 dX12_tell_185 ?_
      obtain rfl := so hf
      exact W.iret (v := ((upd q22.2.2.2.2.2.2.2.2.2.2.1 (Int32.toNatClampNeg p1) (q22.2.2.2.2.2.2.2.2.2.2.1 (Int32.toNatClampNeg 6))) (Int32.toNatClampNeg p1))) hx hb hr (fun t ht _ => g_end hw t ht) hw.2.2.2.2 dX12_tell_186
    · have hf := it_p c23 hf
      refine lv_iconst (v := (-1)) hx hb dX12_tell_43 (by decide) ?_
      refine lv_aload_n hx hb dX12_tell_44 rfl (lv_at hl 0 rfl) ?_
      refine g_get hx hb hts i_X12 hown hK hw 0 eR_c0 rfl 9 (by decide) L_147 (fun _ h => h) rfl dX12_tell_45 ?_
      refine lv_isub hx hb dX12_tell_48 ?_
      obtain rfl := so hf
      exact W.iret (v := ((-1) - q22.2.2.2.2.2.2.1)) hx hb hr (fun t ht _ => g_end hw t ht) hw.2.2.2.2 dX12_tell_49
  · have hf := it_p c21 hf
    refine lv_aload_n hx hb dX12_tell_7 rfl (lv_at hl 0 rfl) ?_
    refine lv_iconst (v := 1) hx hb dX12_tell_8 (by decide) ?_
    obtain ⟨q42, hq42, hf⟩ := bd hf
    refine g_Vi (As := [.int 1]) (rest := []) ⟨hx, hb, hml, hown, hts⟩ (k_X12_refuse hq42) (cwV 1 hts gX12_tell_X12_refuse rfl rfl rfl (by decide +kernel) ⟨Nat.le_of_ble_eq_true rfl, Nat.le_of_ble_eq_true rfl⟩) STR_ok hst hK hw rfl eR_c0 rfl rfl hl.1 rfl (Nat.le_of_ble_eq_true rfl) dX12_tell_9 ⟨Nat.zero_le _, Nat.zero_le _⟩ (fun H locs hw => ?_)
    have hw : Wo D ad (Aw ad 19 s.heap.size) (eR ad y q42.2 m_taped m_size m_to m_from m_kind m_number m_fault m_place m_name m_happenings m_newHappenings m_heard m_outs m_bounds a_tape a_happened a_many a_sort a_one a_other a_low a_high a_begins a_out a_behind a_ahead a_most a_left a_far a_quarrel a_early a_earlyLast) s.heap H locs := hw
    obtain rfl := so hf
    exact W.iret (v := q42.1) hx hb hr (fun t ht _ => g_end hw t ht) hw.2.2.2.2 dX12_tell_12
set_option maxHeartbeats 4000000 in
theorem k_X12_tell {l : Launch} {D : va_G} {ad : Nat → Nat} {y : Nat → ClassId} {m_thrown : Int32} {m_taped : Int32} {m_size : Int32} {m_to : Int32} {m_from : Int32} {m_kind : Int32} {m_number : Int32} {m_fault : Int32} {m_place : Int32} {m_name : Int64} {m_happenings : Int32} {m_newHappenings : Int32} {m_heard : Int32} {m_outs : Int32} {m_bounds : Int32} {a_tape : Nat → Int32} {a_happened : Nat → Int64} {a_many : Nat → Int32} {a_sort : Nat → Int32} {a_one : Nat → Int32} {a_other : Nat → Int32} {a_low : Nat → Int32} {a_high : Nat → Int32} {a_begins : Nat → Int32} {a_out : Nat → Int32} {a_behind : Nat → Int32} {a_ahead : Nat → Int32} {a_most : Nat → Int32} {a_left : Nat → Int32} {a_far : Nat → Int32} {a_quarrel : Nat → Int32} {a_early : Nat → Int32} {a_earlyLast : Nat → Int32} {p1 : Int32} {res : Int32 × Int32 × Int32 × Int32 × Int32 × Int32 × Int32 × Int32 × Int32 × Int32 × Int64 × Int32 × Int32 × (Nat → Int64) × (Nat → Int32) × (Nat → Int32) × (Nat → Int32) × (Nat → Int32) × (Nat → Int32) × (Nat → Int32) × (Nat → Int32)} (hf : f_X12_tell m_thrown m_taped m_size m_to m_from m_kind m_number m_fault m_place m_name m_happenings m_newHappenings a_tape a_happened a_many a_sort a_one a_other a_low a_high a_begins p1 = some res) : CTi l yX12_tell wsX12_tell rm_X12_tell D ad 19 (tyL y) (STR ad) (eR ad y m_thrown m_taped m_size m_to m_from m_kind m_number m_fault m_place m_name m_happenings m_newHappenings m_heard m_outs m_bounds a_tape a_happened a_many a_sort a_one a_other a_low a_high a_begins a_out a_behind a_ahead a_most a_left a_far a_quarrel a_early a_earlyLast) (eR ad y res.2.1 res.2.2.1 res.2.2.2.1 res.2.2.2.2.1 res.2.2.2.2.2.1 res.2.2.2.2.2.2.1 res.2.2.2.2.2.2.2.1 res.2.2.2.2.2.2.2.2.1 res.2.2.2.2.2.2.2.2.2.1 res.2.2.2.2.2.2.2.2.2.2.1 res.2.2.2.2.2.2.2.2.2.2.2.1 res.2.2.2.2.2.2.2.2.2.2.2.2.1 m_heard m_outs m_bounds a_tape res.2.2.2.2.2.2.2.2.2.2.2.2.2.1 res.2.2.2.2.2.2.2.2.2.2.2.2.2.2.1 res.2.2.2.2.2.2.2.2.2.2.2.2.2.2.2.1 res.2.2.2.2.2.2.2.2.2.2.2.2.2.2.2.2.1 res.2.2.2.2.2.2.2.2.2.2.2.2.2.2.2.2.2.1 res.2.2.2.2.2.2.2.2.2.2.2.2.2.2.2.2.2.2.1 res.2.2.2.2.2.2.2.2.2.2.2.2.2.2.2.2.2.2.2.1 res.2.2.2.2.2.2.2.2.2.2.2.2.2.2.2.2.2.2.2.2 a_out a_behind a_ahead a_most a_left a_far a_quarrel a_early a_earlyLast) [.ref (ad 0), .int p1] res.1 := by
  intro sz
  refine Met.ofW (cc := cX12_tell) (maxL := 5) (ret := (some .int)) (by decide) rfl ?_
  intro p e s m args below meth c s₁ B hml hv
  obtain ⟨rfl, hsz, hP, hK, hD0, hst⟩ := hv
  subst hsz
  have C0 : CXT wsX12_tell cX12_tell RX12 5 (some .int) D (tyL y) (STR ad) p s m ([.ref (ad 0), .int p1] : List Value).toArray meth c := ⟨B.exec, B.bytes, B.returns, hml, findClass_of_methodNamed B.named, atoms_spec (ws := wsX12_tell) B.pre, B.notSynchronized, hK, hst⟩
  have hw := g_start (n := 19) rfl hP hD0
  have hl := lv_entry ([.ref (ad 0), .int p1]) (n := 5) (Nat.le_of_ble_eq_true rfl)
  rw [lg_entry_eq]
  generalize (lg_sl ([.ref (ad 0), .int p1]) ++ List.replicate (5 - (lg_sl ([.ref (ad 0), .int p1])).length) Slot.unset).toArray = ls at hl ⊢
  have hl : lv_has ls 5 [(0, .ref (ad 0)), (1, .int p1)] := hl
  exact ke_X12_tell C0 hf hw hl
abbrev rm_X12_fault : Room := { frames := 0, cells := 0, slots := 0, locals := 0 }
abbrev QM_X12_fault (below : List Frame) (args : Array Value) (s : State) (D : va_G) (ad : Nat → Nat) (y : Nat → ClassId) (m_taped : Int32) (m_size : Int32) (m_to : Int32) (m_from : Int32) (m_kind : Int32) (m_number : Int32) (m_fault : Int32) (m_place : Int32) (m_name : Int64) (m_happenings : Int32) (m_newHappenings : Int32) (m_heard : Int32) (m_outs : Int32) (m_bounds : Int32) (a_tape : Nat → Int32) (a_happened : Nat → Int64) (a_many : Nat → Int32) (a_sort : Nat → Int32) (a_one : Nat → Int32) (a_other : Nat → Int32) (a_low : Nat → Int32) (a_high : Nat → Int32) (a_begins : Nat → Int32) (a_out : Nat → Int32) (a_behind : Nat → Int32) (a_ahead : Nat → Int32) (a_most : Nat → Int32) (a_left : Nat → Int32) (a_far : Nat → Int32) (a_quarrel : Nat → Int32) (a_early : Nat → Int32) (a_earlyLast : Nat → Int32) (res : Int32 × Int32) : State → Prop := MQ below (va_Qi (fun x (_ : Unit) => x = res.1) (fun _ t => va_P D vwCl (wls ad (eR ad y res.2 m_taped m_size m_to m_from m_kind m_number m_fault m_place m_name m_happenings m_newHappenings m_heard m_outs m_bounds a_tape a_happened a_many a_sort a_one a_other a_low a_high a_begins a_out a_behind a_ahead a_most a_left a_far a_quarrel a_early a_earlyLast)) t.heap) (Aw ad 19 s.heap.size)) args s 0 0 (Aw ad 19 s.heap.size)
set_option maxHeartbeats 4000000 in
set_option maxRecDepth 100000 in
theorem ke_X12_fault {p : Program} {l : Launch} {e : Env} {s : State} {m : MethodId} {args : Array Value} {below : List Frame} {meth : Method} {c : Code} {D : va_G} {ad : Nat → Nat} {y : Nat → ClassId} (C0 : CXT wsX12_fault cX12_fault RX12 1 (some .int) D (tyL y) (STR ad) p s m args meth c) {m_thrown : Int32} {m_taped : Int32} {m_size : Int32} {m_to : Int32} {m_from : Int32} {m_kind : Int32} {m_number : Int32} {m_fault : Int32} {m_place : Int32} {m_name : Int64} {m_happenings : Int32} {m_newHappenings : Int32} {m_heard : Int32} {m_outs : Int32} {m_bounds : Int32} {a_tape : Nat → Int32} {a_happened : Nat → Int64} {a_many : Nat → Int32} {a_sort : Nat → Int32} {a_one : Nat → Int32} {a_other : Nat → Int32} {a_low : Nat → Int32} {a_high : Nat → Int32} {a_begins : Nat → Int32} {a_out : Nat → Int32} {a_behind : Nat → Int32} {a_ahead : Nat → Int32} {a_most : Nat → Int32} {a_left : Nat → Int32} {a_far : Nat → Int32} {a_quarrel : Nat → Int32} {a_early : Nat → Int32} {a_earlyLast : Nat → Int32}  {res : Int32 × Int32} (hf : f_X12_fault m_thrown m_fault = some res) {H : Heap} {locs : List Loc} {ls : Array Slot} (hw : Wo D ad (Aw ad 19 s.heap.size) (eR ad y m_thrown m_taped m_size m_to m_from m_kind m_number m_fault m_place m_name m_happenings m_newHappenings m_heard m_outs m_bounds a_tape a_happened a_many a_sort a_one a_other a_low a_high a_begins a_out a_behind a_ahead a_most a_left a_far a_quarrel a_early a_earlyLast) s.heap H locs) (hl : lv_has ls 1 [(0, .ref (ad 0))]) : W p l e rm_X12_fault s m args below meth c H locs 0 0 (QM_X12_fault below args s D ad y (m_taped) (m_size) (m_to) (m_from) (m_kind) (m_number) (m_fault) (m_place) (m_name) (m_happenings) (m_newHappenings) (m_heard) (m_outs) (m_bounds) (a_tape) (a_happened) (a_many) (a_sort) (a_one) (a_other) (a_low) (a_high) (a_begins) (a_out) (a_behind) (a_ahead) (a_most) (a_left) (a_far) (a_quarrel) (a_early) (a_earlyLast) res) (F0 m 0 ls []) := by
  obtain ⟨hx, hb, hr, hml, hown, hts, hlocks, hK, hst⟩ := id C0
  have i_X12 : ∀ w ∈ u_ws RX12 TX12 33, w ∈ wsX12_fault := by decide +kernel
  have L_70 := hts (.fieldLink RX12 70 "CaseOrderModel" "thrown" "I") (by decide +kernel)
  have L_144 := hts (.fieldLink RX12 144 "CaseOrderModel" "fault" "I") (by decide +kernel)
  unfold f_X12_fault at hf
  refine lv_aload_n hx hb dX12_fault_0 rfl (lv_at hl 0 rfl) ?_
  refine lv_iconst (v := 0) hx hb dX12_fault_1 (by decide) ?_
  refine g_put (ty := .int) hx hb hts i_X12 tyX12 tyX12_ok nmX12 hown hK hw 0 eR_c0 rfl 0 (by decide) L_70 (fun _ h => h) rfl (by decide +kernel) rfl rfl (Nat.le_of_ble_eq_true rfl) dX12_fault_2 (fun H locs hw => ?_)
  have hw : Wo D ad (Aw ad 19 s.heap.size) (eR ad y 0 m_taped m_size m_to m_from m_kind m_number m_fault m_place m_name m_happenings m_newHappenings m_heard m_outs m_bounds a_tape a_happened a_many a_sort a_one a_other a_low a_high a_begins a_out a_behind a_ahead a_most a_left a_far a_quarrel a_early a_earlyLast) s.heap H locs := hw
  refine lv_aload_n hx hb dX12_fault_5 rfl (lv_at hl 0 rfl) ?_
  refine g_get hx hb hts i_X12 hown hK hw 0 eR_c0 rfl 8 (by decide) L_144 (fun _ h => h) rfl dX12_fault_6 ?_
  obtain rfl := so hf
  exact W.iret (v := m_fault) hx hb hr (fun t ht _ => g_end hw t ht) hw.2.2.2.2 dX12_fault_9
set_option maxHeartbeats 4000000 in
theorem k_X12_fault {l : Launch} {D : va_G} {ad : Nat → Nat} {y : Nat → ClassId} {m_thrown : Int32} {m_taped : Int32} {m_size : Int32} {m_to : Int32} {m_from : Int32} {m_kind : Int32} {m_number : Int32} {m_fault : Int32} {m_place : Int32} {m_name : Int64} {m_happenings : Int32} {m_newHappenings : Int32} {m_heard : Int32} {m_outs : Int32} {m_bounds : Int32} {a_tape : Nat → Int32} {a_happened : Nat → Int64} {a_many : Nat → Int32} {a_sort : Nat → Int32} {a_one : Nat → Int32} {a_other : Nat → Int32} {a_low : Nat → Int32} {a_high : Nat → Int32} {a_begins : Nat → Int32} {a_out : Nat → Int32} {a_behind : Nat → Int32} {a_ahead : Nat → Int32} {a_most : Nat → Int32} {a_left : Nat → Int32} {a_far : Nat → Int32} {a_quarrel : Nat → Int32} {a_early : Nat → Int32} {a_earlyLast : Nat → Int32}  {res : Int32 × Int32} (hf : f_X12_fault m_thrown m_fault = some res) : CTi l yX12_fault wsX12_fault rm_X12_fault D ad 19 (tyL y) (STR ad) (eR ad y m_thrown m_taped m_size m_to m_from m_kind m_number m_fault m_place m_name m_happenings m_newHappenings m_heard m_outs m_bounds a_tape a_happened a_many a_sort a_one a_other a_low a_high a_begins a_out a_behind a_ahead a_most a_left a_far a_quarrel a_early a_earlyLast) (eR ad y res.2 m_taped m_size m_to m_from m_kind m_number m_fault m_place m_name m_happenings m_newHappenings m_heard m_outs m_bounds a_tape a_happened a_many a_sort a_one a_other a_low a_high a_begins a_out a_behind a_ahead a_most a_left a_far a_quarrel a_early a_earlyLast) [.ref (ad 0)] res.1 := by
  intro sz
  refine Met.ofW (cc := cX12_fault) (maxL := 1) (ret := (some .int)) (by decide) rfl ?_
  intro p e s m args below meth c s₁ B hml hv
  obtain ⟨rfl, hsz, hP, hK, hD0, hst⟩ := hv
  subst hsz
  have C0 : CXT wsX12_fault cX12_fault RX12 1 (some .int) D (tyL y) (STR ad) p s m ([.ref (ad 0)] : List Value).toArray meth c := ⟨B.exec, B.bytes, B.returns, hml, findClass_of_methodNamed B.named, atoms_spec (ws := wsX12_fault) B.pre, B.notSynchronized, hK, hst⟩
  have hw := g_start (n := 19) rfl hP hD0
  have hl := lv_entry ([.ref (ad 0)]) (n := 1) (Nat.le_of_ble_eq_true rfl)
  rw [lg_entry_eq]
  generalize (lg_sl ([.ref (ad 0)]) ++ List.replicate (1 - (lg_sl ([.ref (ad 0)])).length) Slot.unset).toArray = ls at hl ⊢
  have hl : lv_has ls 1 [(0, .ref (ad 0))] := hl
  exact ke_X12_fault C0 hf hw hl
abbrev rm_X12_hear : Room := { frames := 0, cells := 0, slots := 0, locals := 0 }
abbrev QM_X12_hear (below : List Frame) (args : Array Value) (s : State) (D : va_G) (ad : Nat → Nat) (y : Nat → ClassId) (m_taped : Int32) (m_size : Int32) (m_to : Int32) (m_from : Int32) (m_kind : Int32) (m_number : Int32) (m_fault : Int32) (m_place : Int32) (m_name : Int64) (m_happenings : Int32) (m_newHappenings : Int32) (m_outs : Int32) (m_bounds : Int32) (a_tape : Nat → Int32) (a_happened : Nat → Int64) (a_many : Nat → Int32) (a_sort : Nat → Int32) (a_one : Nat → Int32) (a_other : Nat → Int32) (a_low : Nat → Int32) (a_high : Nat → Int32) (a_begins : Nat → Int32) (a_out : Nat → Int32) (a_behind : Nat → Int32) (a_ahead : Nat → Int32) (a_most : Nat → Int32) (a_left : Nat → Int32) (a_far : Nat → Int32) (a_quarrel : Nat → Int32) (a_early : Nat → Int32) (a_earlyLast : Nat → Int32) (res : Int32 × Int32 × Int32) : State → Prop := MQ below (va_Qi (fun x (_ : Unit) => x = res.1) (fun _ t => va_P D vwCl (wls ad (eR ad y res.2.1 m_taped m_size m_to m_from m_kind m_number m_fault m_place m_name m_happenings m_newHappenings res.2.2 m_outs m_bounds a_tape a_happened a_many a_sort a_one a_other a_low a_high a_begins a_out a_behind a_ahead a_most a_left a_far a_quarrel a_early a_earlyLast)) t.heap) (Aw ad 19 s.heap.size)) args s 0 0 (Aw ad 19 s.heap.size)
set_option maxHeartbeats 4000000 in
set_option maxRecDepth 100000 in
theorem ke_X12_hear {p : Program} {l : Launch} {e : Env} {s : State} {m : MethodId} {args : Array Value} {below : List Frame} {meth : Method} {c : Code} {D : va_G} {ad : Nat → Nat} {y : Nat → ClassId} (C0 : CXT wsX12_hear cX12_hear RX12 2 (some .boolean) D (tyL y) (STR ad) p s m args meth c) {m_thrown : Int32} {m_taped : Int32} {m_size : Int32} {m_to : Int32} {m_from : Int32} {m_kind : Int32} {m_number : Int32} {m_fault : Int32} {m_place : Int32} {m_name : Int64} {m_happenings : Int32} {m_newHappenings : Int32} {m_heard : Int32} {m_outs : Int32} {m_bounds : Int32} {a_tape : Nat → Int32} {a_happened : Nat → Int64} {a_many : Nat → Int32} {a_sort : Nat → Int32} {a_one : Nat → Int32} {a_other : Nat → Int32} {a_low : Nat → Int32} {a_high : Nat → Int32} {a_begins : Nat → Int32} {a_out : Nat → Int32} {a_behind : Nat → Int32} {a_ahead : Nat → Int32} {a_most : Nat → Int32} {a_left : Nat → Int32} {a_far : Nat → Int32} {a_quarrel : Nat → Int32} {a_early : Nat → Int32} {a_earlyLast : Nat → Int32} {p1 : Int32} {res : Int32 × Int32 × Int32} (hf : f_X12_hear m_thrown m_heard p1 = some res) {H : Heap} {locs : List Loc} {ls : Array Slot} (hw : Wo D ad (Aw ad 19 s.heap.size) (eR ad y m_thrown m_taped m_size m_to m_from m_kind m_number m_fault m_place m_name m_happenings m_newHappenings m_heard m_outs m_bounds a_tape a_happened a_many a_sort a_one a_other a_low a_high a_begins a_out a_behind a_ahead a_most a_left a_far a_quarrel a_early a_earlyLast) s.heap H locs) (hl : lv_has ls 2 [(0, .ref (ad 0)), (1, .int p1)]) : W p l e rm_X12_hear s m args below meth c H locs 0 0 (QM_X12_hear below args s D ad y (m_taped) (m_size) (m_to) (m_from) (m_kind) (m_number) (m_fault) (m_place) (m_name) (m_happenings) (m_newHappenings) (m_outs) (m_bounds) (a_tape) (a_happened) (a_many) (a_sort) (a_one) (a_other) (a_low) (a_high) (a_begins) (a_out) (a_behind) (a_ahead) (a_most) (a_left) (a_far) (a_quarrel) (a_early) (a_earlyLast) res) (F0 m 0 ls []) := by
  obtain ⟨hx, hb, hr, hml, hown, hts, hlocks, hK, hst⟩ := id C0
  have i_X12 : ∀ w ∈ u_ws RX12 TX12 33, w ∈ wsX12_hear := by decide +kernel
  have L_70 := hts (.fieldLink RX12 70 "CaseOrderModel" "thrown" "I") (by decide +kernel)
  have L_38 := hts (.fieldLink RX12 38 "CaseOrderModel" "heard" "I") (by decide +kernel)
  unfold f_X12_hear at hf
  refine lv_aload_n hx hb dX12_hear_0 rfl (lv_at hl 0 rfl) ?_
  refine lv_iconst (v := 0) hx hb dX12_hear_1 (by decide) ?_
  refine g_put (ty := .int) hx hb hts i_X12 tyX12 tyX12_ok nmX12 hown hK hw 0 eR_c0 rfl 0 (by decide) L_70 (fun _ h => h) rfl (by decide +kernel) rfl rfl (Nat.le_of_ble_eq_true rfl) dX12_hear_2 (fun H locs hw => ?_)
  have hw : Wo D ad (Aw ad 19 s.heap.size) (eR ad y 0 m_taped m_size m_to m_from m_kind m_number m_fault m_place m_name m_happenings m_newHappenings m_heard m_outs m_bounds a_tape a_happened a_many a_sort a_one a_other a_low a_high a_begins a_out a_behind a_ahead a_most a_left a_far a_quarrel a_early a_earlyLast) s.heap H locs := hw
  refine lv_iload_n hx hb dX12_hear_5 rfl (lv_at hl 1 rfl) ?_
  refine lv_if_lt (tgt := 15) hx hb dX12_hear_6 (by decide) (fun c1 => ?_) (fun c1 => ?_)
  · have hf := it_p c1 hf
    refine lv_iconst (v := 0) hx hb dX12_hear_15 (by decide) ?_
    obtain rfl := so hf
    exact W.zret (v := 0) hx hb hr rfl (fun t ht _ => g_end hw t ht) hw.2.2.2.2 dX12_hear_16
  · have hf := it_n c1 hf
    refine lv_iload_n hx hb dX12_hear_9 rfl (lv_at hl 1 rfl) ?_
    refine lv_bipush (v := 63) hx hb dX12_hear_10 (by decide) ?_
    refine lv_icmp_le (tgt := 17) hx hb dX12_hear_12 (by decide) (fun c2 => ?_) (fun c2 => ?_)
    · have hf := it_p c2 hf
      refine lv_aload_n hx hb dX12_hear_17 rfl (lv_at hl 0 rfl) ?_
      refine lv_iload_n hx hb dX12_hear_18 rfl (lv_at hl 1 rfl) ?_
      refine g_put (ty := .int) hx hb hts i_X12 tyX12 tyX12_ok nmX12 hown hK hw 0 eR_c0 rfl 21 (by decide) L_38 (fun _ h => h) rfl (by decide +kernel) rfl rfl (Nat.le_of_ble_eq_true rfl) dX12_hear_19 (fun H locs hw => ?_)
      have hw : Wo D ad (Aw ad 19 s.heap.size) (eR ad y 0 m_taped m_size m_to m_from m_kind m_number m_fault m_place m_name m_happenings m_newHappenings p1 m_outs m_bounds a_tape a_happened a_many a_sort a_one a_other a_low a_high a_begins a_out a_behind a_ahead a_most a_left a_far a_quarrel a_early a_earlyLast) s.heap H locs := hw
      refine lv_iconst (v := 1) hx hb dX12_hear_22 (by decide) ?_
      obtain rfl := so hf
      exact W.zret (v := 1) hx hb hr rfl (fun t ht _ => g_end hw t ht) hw.2.2.2.2 dX12_hear_23
    · have hf := it_n c2 hf
      refine lv_iconst (v := 0) hx hb dX12_hear_15 (by decide) ?_
      obtain rfl := so hf
      exact W.zret (v := 0) hx hb hr rfl (fun t ht _ => g_end hw t ht) hw.2.2.2.2 dX12_hear_16
set_option maxHeartbeats 4000000 in
theorem k_X12_hear {l : Launch} {D : va_G} {ad : Nat → Nat} {y : Nat → ClassId} {m_thrown : Int32} {m_taped : Int32} {m_size : Int32} {m_to : Int32} {m_from : Int32} {m_kind : Int32} {m_number : Int32} {m_fault : Int32} {m_place : Int32} {m_name : Int64} {m_happenings : Int32} {m_newHappenings : Int32} {m_heard : Int32} {m_outs : Int32} {m_bounds : Int32} {a_tape : Nat → Int32} {a_happened : Nat → Int64} {a_many : Nat → Int32} {a_sort : Nat → Int32} {a_one : Nat → Int32} {a_other : Nat → Int32} {a_low : Nat → Int32} {a_high : Nat → Int32} {a_begins : Nat → Int32} {a_out : Nat → Int32} {a_behind : Nat → Int32} {a_ahead : Nat → Int32} {a_most : Nat → Int32} {a_left : Nat → Int32} {a_far : Nat → Int32} {a_quarrel : Nat → Int32} {a_early : Nat → Int32} {a_earlyLast : Nat → Int32} {p1 : Int32} {res : Int32 × Int32 × Int32} (hf : f_X12_hear m_thrown m_heard p1 = some res) : CTi l yX12_hear wsX12_hear rm_X12_hear D ad 19 (tyL y) (STR ad) (eR ad y m_thrown m_taped m_size m_to m_from m_kind m_number m_fault m_place m_name m_happenings m_newHappenings m_heard m_outs m_bounds a_tape a_happened a_many a_sort a_one a_other a_low a_high a_begins a_out a_behind a_ahead a_most a_left a_far a_quarrel a_early a_earlyLast) (eR ad y res.2.1 m_taped m_size m_to m_from m_kind m_number m_fault m_place m_name m_happenings m_newHappenings res.2.2 m_outs m_bounds a_tape a_happened a_many a_sort a_one a_other a_low a_high a_begins a_out a_behind a_ahead a_most a_left a_far a_quarrel a_early a_earlyLast) [.ref (ad 0), .int p1] res.1 := by
  intro sz
  refine Met.ofW (cc := cX12_hear) (maxL := 2) (ret := (some .boolean)) (by decide) rfl ?_
  intro p e s m args below meth c s₁ B hml hv
  obtain ⟨rfl, hsz, hP, hK, hD0, hst⟩ := hv
  subst hsz
  have C0 : CXT wsX12_hear cX12_hear RX12 2 (some .boolean) D (tyL y) (STR ad) p s m ([.ref (ad 0), .int p1] : List Value).toArray meth c := ⟨B.exec, B.bytes, B.returns, hml, findClass_of_methodNamed B.named, atoms_spec (ws := wsX12_hear) B.pre, B.notSynchronized, hK, hst⟩
  have hw := g_start (n := 19) rfl hP hD0
  have hl := lv_entry ([.ref (ad 0), .int p1]) (n := 2) (Nat.le_of_ble_eq_true rfl)
  rw [lg_entry_eq]
  generalize (lg_sl ([.ref (ad 0), .int p1]) ++ List.replicate (2 - (lg_sl ([.ref (ad 0), .int p1])).length) Slot.unset).toArray = ls at hl ⊢
  have hl : lv_has ls 2 [(0, .ref (ad 0)), (1, .int p1)] := hl
  exact ke_X12_hear C0 hf hw hl
abbrev rm_X12_isSaying : Room := { frames := 0, cells := 0, slots := 0, locals := 0 }
abbrev QM_X12_isSaying (below : List Frame) (args : Array Value) (s : State) (D : va_G) (ad : Nat → Nat) (y : Nat → ClassId) (m_thrown : Int32) (m_taped : Int32) (m_size : Int32) (m_to : Int32) (m_from : Int32) (m_kind : Int32) (m_number : Int32) (m_fault : Int32) (m_place : Int32) (m_name : Int64) (m_happenings : Int32) (m_newHappenings : Int32) (m_heard : Int32) (m_outs : Int32) (m_bounds : Int32) (a_tape : Nat → Int32) (a_happened : Nat → Int64) (a_many : Nat → Int32) (a_sort : Nat → Int32) (a_one : Nat → Int32) (a_other : Nat → Int32) (a_low : Nat → Int32) (a_high : Nat → Int32) (a_begins : Nat → Int32) (a_out : Nat → Int32) (a_behind : Nat → Int32) (a_ahead : Nat → Int32) (a_most : Nat → Int32) (a_left : Nat → Int32) (a_far : Nat → Int32) (a_quarrel : Nat → Int32) (a_early : Nat → Int32) (a_earlyLast : Nat → Int32) (res : Int32) : State → Prop := MQ below (va_Qi (fun x (_ : Unit) => x = res) (fun _ t => va_P D vwCl (wls ad (eR ad y m_thrown m_taped m_size m_to m_from m_kind m_number m_fault m_place m_name m_happenings m_newHappenings m_heard m_outs m_bounds a_tape a_happened a_many a_sort a_one a_other a_low a_high a_begins a_out a_behind a_ahead a_most a_left a_far a_quarrel a_early a_earlyLast)) t.heap) (Aw ad 19 s.heap.size)) args s 0 0 (Aw ad 19 s.heap.size)
set_option maxHeartbeats 4000000 in
set_option maxRecDepth 100000 in
theorem ke_X12_isSaying {p : Program} {l : Launch} {e : Env} {s : State} {m : MethodId} {args : Array Value} {below : List Frame} {meth : Method} {c : Code} {D : va_G} {ad : Nat → Nat} {y : Nat → ClassId} (C0 : CXT wsX12_isSaying cX12_isSaying RX12 3 (some .boolean) D (tyL y) (STR ad) p s m args meth c) {m_thrown : Int32} {m_taped : Int32} {m_size : Int32} {m_to : Int32} {m_from : Int32} {m_kind : Int32} {m_number : Int32} {m_fault : Int32} {m_place : Int32} {m_name : Int64} {m_happenings : Int32} {m_newHappenings : Int32} {m_heard : Int32} {m_outs : Int32} {m_bounds : Int32} {a_tape : Nat → Int32} {a_happened : Nat → Int64} {a_many : Nat → Int32} {a_sort : Nat → Int32} {a_one : Nat → Int32} {a_other : Nat → Int32} {a_low : Nat → Int32} {a_high : Nat → Int32} {a_begins : Nat → Int32} {a_out : Nat → Int32} {a_behind : Nat → Int32} {a_ahead : Nat → Int32} {a_most : Nat → Int32} {a_left : Nat → Int32} {a_far : Nat → Int32} {a_quarrel : Nat → Int32} {a_early : Nat → Int32} {a_earlyLast : Nat → Int32} {p1 : Int32} {p2 : Int32} {res : Int32} (hf : f_X12_isSaying a_many p1 p2 = some res) {H : Heap} {locs : List Loc} {ls : Array Slot} (hw : Wo D ad (Aw ad 19 s.heap.size) (eR ad y m_thrown m_taped m_size m_to m_from m_kind m_number m_fault m_place m_name m_happenings m_newHappenings m_heard m_outs m_bounds a_tape a_happened a_many a_sort a_one a_other a_low a_high a_begins a_out a_behind a_ahead a_most a_left a_far a_quarrel a_early a_earlyLast) s.heap H locs) (hl : lv_has ls 3 [(0, .ref (ad 0)), (1, .int p1), (2, .int p2)]) : W p l e rm_X12_isSaying s m args below meth c H locs 0 0 (QM_X12_isSaying below args s D ad y (m_thrown) (m_taped) (m_size) (m_to) (m_from) (m_kind) (m_number) (m_fault) (m_place) (m_name) (m_happenings) (m_newHappenings) (m_heard) (m_outs) (m_bounds) (a_tape) (a_happened) (a_many) (a_sort) (a_one) (a_other) (a_low) (a_high) (a_begins) (a_out) (a_behind) (a_ahead) (a_most) (a_left) (a_far) (a_quarrel) (a_early) (a_earlyLast) res) (F0 m 0 ls []) := by
  obtain ⟨hx, hb, hr, hml, hown, hts, hlocks, hK, hst⟩ := id C0
  have i_X12 : ∀ w ∈ u_ws RX12 TX12 33, w ∈ wsX12_isSaying := by decide +kernel
  have L_17 := hts (.fieldLink RX12 17 "CaseOrderModel" "many" "[I") (by decide +kernel)
  unfold f_X12_isSaying at hf
  refine lv_iload_n hx hb dX12_isSaying_0 rfl (lv_at hl 2 rfl) ?_
  refine lv_if_lt (tgt := 18) hx hb dX12_isSaying_1 (by decide) (fun c2 => ?_) (fun c2 => ?_)
  · have hf := it_p c2 hf
    refine lv_iconst (v := 0) hx hb dX12_isSaying_18 (by decide) ?_
    obtain rfl := so hf
    exact W.zret (v := 0) hx hb hr rfl (fun t ht _ => g_end hw t ht) hw.2.2.2.2 dX12_isSaying_19
  · have hf := it_n c2 hf
    refine lv_iload_n hx hb dX12_isSaying_4 rfl (lv_at hl 2 rfl) ?_
    refine lv_aload_n hx hb dX12_isSaying_5 rfl (lv_at hl 0 rfl) ?_
    refine g_get hx hb hts i_X12 hown hK hw 0 eR_c0 rfl 14 (by decide) L_17 (fun _ h => h) rfl dX12_isSaying_6 ?_
    refine lv_iload_n hx hb dX12_isSaying_9 rfl (lv_at hl 1 rfl) ?_
    obtain ⟨g3, hf⟩ := gIn_some hf
    refine g_iald hx hb hK hw 3 1 eR_c3 rfl g3 dX12_isSaying_10 ?_
    refine lv_icmp_ge (tgt := 18) hx hb dX12_isSaying_11 (by decide) (fun c4 => ?_) (fun c4 => ?_)
    · have hf := it_p c4 hf
      refine lv_iconst (v := 0) hx hb dX12_isSaying_18 (by decide) ?_
      obtain rfl := so hf
      exact W.zret (v := 0) hx hb hr rfl (fun t ht _ => g_end hw t ht) hw.2.2.2.2 dX12_isSaying_19
    · have hf := it_n c4 hf
      refine lv_iconst (v := 1) hx hb dX12_isSaying_14 (by decide) ?_
      refine lv_goto (tgt := 19) hx hb dX12_isSaying_15 (by decide) ?_
      obtain rfl := so hf
      exact W.zret (v := 1) hx hb hr rfl (fun t ht _ => g_end hw t ht) hw.2.2.2.2 dX12_isSaying_19
set_option maxHeartbeats 4000000 in
theorem k_X12_isSaying {l : Launch} {D : va_G} {ad : Nat → Nat} {y : Nat → ClassId} {m_thrown : Int32} {m_taped : Int32} {m_size : Int32} {m_to : Int32} {m_from : Int32} {m_kind : Int32} {m_number : Int32} {m_fault : Int32} {m_place : Int32} {m_name : Int64} {m_happenings : Int32} {m_newHappenings : Int32} {m_heard : Int32} {m_outs : Int32} {m_bounds : Int32} {a_tape : Nat → Int32} {a_happened : Nat → Int64} {a_many : Nat → Int32} {a_sort : Nat → Int32} {a_one : Nat → Int32} {a_other : Nat → Int32} {a_low : Nat → Int32} {a_high : Nat → Int32} {a_begins : Nat → Int32} {a_out : Nat → Int32} {a_behind : Nat → Int32} {a_ahead : Nat → Int32} {a_most : Nat → Int32} {a_left : Nat → Int32} {a_far : Nat → Int32} {a_quarrel : Nat → Int32} {a_early : Nat → Int32} {a_earlyLast : Nat → Int32} {p1 : Int32} {p2 : Int32} {res : Int32} (hf : f_X12_isSaying a_many p1 p2 = some res) : CTi l yX12_isSaying wsX12_isSaying rm_X12_isSaying D ad 19 (tyL y) (STR ad) (eR ad y m_thrown m_taped m_size m_to m_from m_kind m_number m_fault m_place m_name m_happenings m_newHappenings m_heard m_outs m_bounds a_tape a_happened a_many a_sort a_one a_other a_low a_high a_begins a_out a_behind a_ahead a_most a_left a_far a_quarrel a_early a_earlyLast) (eR ad y m_thrown m_taped m_size m_to m_from m_kind m_number m_fault m_place m_name m_happenings m_newHappenings m_heard m_outs m_bounds a_tape a_happened a_many a_sort a_one a_other a_low a_high a_begins a_out a_behind a_ahead a_most a_left a_far a_quarrel a_early a_earlyLast) [.ref (ad 0), .int p1, .int p2] res := by
  intro sz
  refine Met.ofW (cc := cX12_isSaying) (maxL := 3) (ret := (some .boolean)) (by decide) rfl ?_
  intro p e s m args below meth c s₁ B hml hv
  obtain ⟨rfl, hsz, hP, hK, hD0, hst⟩ := hv
  subst hsz
  have C0 : CXT wsX12_isSaying cX12_isSaying RX12 3 (some .boolean) D (tyL y) (STR ad) p s m ([.ref (ad 0), .int p1, .int p2] : List Value).toArray meth c := ⟨B.exec, B.bytes, B.returns, hml, findClass_of_methodNamed B.named, atoms_spec (ws := wsX12_isSaying) B.pre, B.notSynchronized, hK, hst⟩
  have hw := g_start (n := 19) rfl hP hD0
  have hl := lv_entry ([.ref (ad 0), .int p1, .int p2]) (n := 3) (Nat.le_of_ble_eq_true rfl)
  rw [lg_entry_eq]
  generalize (lg_sl ([.ref (ad 0), .int p1, .int p2]) ++ List.replicate (3 - (lg_sl ([.ref (ad 0), .int p1, .int p2])).length) Slot.unset).toArray = ls at hl ⊢
  have hl : lv_has ls 3 [(0, .ref (ad 0)), (1, .int p1), (2, .int p2)] := hl
  exact ke_X12_isSaying C0 hf hw hl
abbrev rm_X12_saying : Room := { frames := 1, cells := 0, slots := 0, locals := 22 }
abbrev QM_X12_saying (below : List Frame) (args : Array Value) (s : State) (D : va_G) (ad : Nat → Nat) (y : Nat → ClassId) (m_taped : Int32) (m_size : Int32) (m_to : Int32) (m_from : Int32) (m_kind : Int32) (m_number : Int32) (m_fault : Int32) (m_place : Int32) (m_name : Int64) (m_happenings : Int32) (m_newHappenings : Int32) (m_heard : Int32) (m_outs : Int32) (m_bounds : Int32) (a_tape : Nat → Int32) (a_happened : Nat → Int64) (a_many : Nat → Int32) (a_sort : Nat → Int32) (a_one : Nat → Int32) (a_other : Nat → Int32) (a_low : Nat → Int32) (a_high : Nat → Int32) (a_begins : Nat → Int32) (a_out : Nat → Int32) (a_behind : Nat → Int32) (a_ahead : Nat → Int32) (a_most : Nat → Int32) (a_left : Nat → Int32) (a_far : Nat → Int32) (a_quarrel : Nat → Int32) (a_early : Nat → Int32) (a_earlyLast : Nat → Int32) (res : Int32 × Int32) : State → Prop := MQ below (va_Qi (fun x (_ : Unit) => x = res.1) (fun _ t => va_P D vwCl (wls ad (eR ad y res.2 m_taped m_size m_to m_from m_kind m_number m_fault m_place m_name m_happenings m_newHappenings m_heard m_outs m_bounds a_tape a_happened a_many a_sort a_one a_other a_low a_high a_begins a_out a_behind a_ahead a_most a_left a_far a_quarrel a_early a_earlyLast)) t.heap) (Aw ad 19 s.heap.size)) args s 0 0 (Aw ad 19 s.heap.size)
set_option maxHeartbeats 4000000 in
set_option maxRecDepth 100000 in
theorem kb_X12_saying_b31 {p : Program} {l : Launch} {e : Env} {s : State} {m : MethodId} {args : Array Value} {below : List Frame} {meth : Method} {c : Code} {D : va_G} {ad : Nat → Nat} {y : Nat → ClassId} (C0 : CXT wsX12_saying cX12_saying RX12 5 (some .int) D (tyL y) (STR ad) p s m args meth c) {m_thrown : Int32} {m_taped : Int32} {m_size : Int32} {m_to : Int32} {m_from : Int32} {m_kind : Int32} {m_number : Int32} {m_fault : Int32} {m_place : Int32} {m_name : Int64} {m_happenings : Int32} {m_newHappenings : Int32} {m_heard : Int32} {m_outs : Int32} {m_bounds : Int32} {a_tape : Nat → Int32} {a_happened : Nat → Int64} {a_many : Nat → Int32} {a_sort : Nat → Int32} {a_one : Nat → Int32} {a_other : Nat → Int32} {a_low : Nat → Int32} {a_high : Nat → Int32} {a_begins : Nat → Int32} {a_out : Nat → Int32} {a_behind : Nat → Int32} {a_ahead : Nat → Int32} {a_most : Nat → Int32} {a_left : Nat → Int32} {a_far : Nat → Int32} {a_quarrel : Nat → Int32} {a_early : Nat → Int32} {a_earlyLast : Nat → Int32}    {res : Int32 × Int32} (hf : f_X12_saying_b31 m_thrown a_many a_sort a_one a_other a_low a_high a_begins = some res) {H : Heap} {locs : List Loc} {ls : Array Slot} (hw : Wo D ad (Aw ad 19 s.heap.size) (eR ad y m_thrown m_taped m_size m_to m_from m_kind m_number m_fault m_place m_name m_happenings m_newHappenings m_heard m_outs m_bounds a_tape a_happened a_many a_sort a_one a_other a_low a_high a_begins a_out a_behind a_ahead a_most a_left a_far a_quarrel a_early a_earlyLast) s.heap H locs) (hl : lv_has ls 5 [(0, .ref (ad 0))]) : W p l e rm_X12_saying s m args below meth c H locs 0 0 (QM_X12_saying below args s D ad y (m_taped) (m_size) (m_to) (m_from) (m_kind) (m_number) (m_fault) (m_place) (m_name) (m_happenings) (m_newHappenings) (m_heard) (m_outs) (m_bounds) (a_tape) (a_happened) (a_many) (a_sort) (a_one) (a_other) (a_low) (a_high) (a_begins) (a_out) (a_behind) (a_ahead) (a_most) (a_left) (a_far) (a_quarrel) (a_early) (a_earlyLast) res) (F0 m 31 ls []) := by
  obtain ⟨hx, hb, hr, hml, hown, hts, hlocks, hK, hst⟩ := id C0
  unfold f_X12_saying_b31 at hf
  refine lv_aload_n hx hb dX12_saying_31 rfl (lv_at hl 0 rfl) ?_
  refine lv_iconst (v := 2) hx hb dX12_saying_32 (by decide) ?_
  obtain ⟨q15, hq15, hf⟩ := bd hf
  refine g_Vi (As := [.int 2]) (rest := []) ⟨hx, hb, hml, hown, hts⟩ (k_X12_refuse hq15) (cwV 1 hts gX12_saying_X12_refuse rfl rfl rfl (by decide +kernel) ⟨Nat.le_of_ble_eq_true rfl, Nat.le_of_ble_eq_true rfl⟩) STR_ok hst hK hw rfl eR_c0 rfl rfl hl.1 rfl (Nat.le_of_ble_eq_true rfl) dX12_saying_33 ⟨Nat.zero_le _, Nat.zero_le _⟩ (fun H locs hw => ?_)
  have hw : Wo D ad (Aw ad 19 s.heap.size) (eR ad y q15.2 m_taped m_size m_to m_from m_kind m_number m_fault m_place m_name m_happenings m_newHappenings m_heard m_outs m_bounds a_tape a_happened a_many a_sort a_one a_other a_low a_high a_begins a_out a_behind a_ahead a_most a_left a_far a_quarrel a_early a_earlyLast) s.heap H locs := hw
  obtain rfl := so hf
  exact W.iret (v := q15.1) hx hb hr (fun t ht _ => g_end hw t ht) hw.2.2.2.2 dX12_saying_36
set_option maxHeartbeats 4000000 in
set_option maxRecDepth 100000 in
theorem ke_X12_saying {p : Program} {l : Launch} {e : Env} {s : State} {m : MethodId} {args : Array Value} {below : List Frame} {meth : Method} {c : Code} {D : va_G} {ad : Nat → Nat} {y : Nat → ClassId} (C0 : CXT wsX12_saying cX12_saying RX12 5 (some .int) D (tyL y) (STR ad) p s m args meth c) {m_thrown : Int32} {m_taped : Int32} {m_size : Int32} {m_to : Int32} {m_from : Int32} {m_kind : Int32} {m_number : Int32} {m_fault : Int32} {m_place : Int32} {m_name : Int64} {m_happenings : Int32} {m_newHappenings : Int32} {m_heard : Int32} {m_outs : Int32} {m_bounds : Int32} {a_tape : Nat → Int32} {a_happened : Nat → Int64} {a_many : Nat → Int32} {a_sort : Nat → Int32} {a_one : Nat → Int32} {a_other : Nat → Int32} {a_low : Nat → Int32} {a_high : Nat → Int32} {a_begins : Nat → Int32} {a_out : Nat → Int32} {a_behind : Nat → Int32} {a_ahead : Nat → Int32} {a_most : Nat → Int32} {a_left : Nat → Int32} {a_far : Nat → Int32} {a_quarrel : Nat → Int32} {a_early : Nat → Int32} {a_earlyLast : Nat → Int32} {p1 : Int32} {p2 : Int32} {p3 : Int32} {res : Int32 × Int32} (hf : f_X12_saying m_thrown a_many a_sort a_one a_other a_low a_high a_begins p1 p2 p3 = some res) {H : Heap} {locs : List Loc} {ls : Array Slot} (hw : Wo D ad (Aw ad 19 s.heap.size) (eR ad y m_thrown m_taped m_size m_to m_from m_kind m_number m_fault m_place m_name m_happenings m_newHappenings m_heard m_outs m_bounds a_tape a_happened a_many a_sort a_one a_other a_low a_high a_begins a_out a_behind a_ahead a_most a_left a_far a_quarrel a_early a_earlyLast) s.heap H locs) (hl : lv_has ls 5 [(0, .ref (ad 0)), (1, .int p1), (2, .int p2), (3, .int p3)]) : W p l e rm_X12_saying s m args below meth c H locs 0 0 (QM_X12_saying below args s D ad y (m_taped) (m_size) (m_to) (m_from) (m_kind) (m_number) (m_fault) (m_place) (m_name) (m_happenings) (m_newHappenings) (m_heard) (m_outs) (m_bounds) (a_tape) (a_happened) (a_many) (a_sort) (a_one) (a_other) (a_low) (a_high) (a_begins) (a_out) (a_behind) (a_ahead) (a_most) (a_left) (a_far) (a_quarrel) (a_early) (a_earlyLast) res) (F0 m 0 ls []) := by
  obtain ⟨hx, hb, hr, hml, hown, hts, hlocks, hK, hst⟩ := id C0
  have i_X12 : ∀ w ∈ u_ws RX12 TX12 33, w ∈ wsX12_saying := by decide +kernel
  have L_70 := hts (.fieldLink RX12 70 "CaseOrderModel" "thrown" "I") (by decide +kernel)
  have L_20 := hts (.fieldLink RX12 20 "CaseOrderModel" "sort" "[I") (by decide +kernel)
  have L_23 := hts (.fieldLink RX12 23 "CaseOrderModel" "one" "[I") (by decide +kernel)
  have L_26 := hts (.fieldLink RX12 26 "CaseOrderModel" "other" "[I") (by decide +kernel)
  have L_29 := hts (.fieldLink RX12 29 "CaseOrderModel" "low" "[I") (by decide +kernel)
  have L_32 := hts (.fieldLink RX12 32 "CaseOrderModel" "high" "[I") (by decide +kernel)
  have L_35 := hts (.fieldLink RX12 35 "CaseOrderModel" "begins" "[I") (by decide +kernel)
  unfold f_X12_saying at hf
  refine lv_iload_n hx hb dX12_saying_0 rfl (lv_at hl 1 rfl) ?_
  obtain ⟨q11, hq11, hf⟩ := bd hf
  refine g_Si (As := [.int p1]) (rest := []) ⟨hx, hb, hml, hown, hts⟩ (k_X12_isTeller hq11) (va_cwS 1 hts gX12_saying_X12_isTeller rfl rfl rfl (by decide +kernel) ⟨Nat.le_of_ble_eq_true rfl, Nat.le_of_ble_eq_true rfl⟩) STR_ok hst hK hw rfl rfl hl.1 rfl (Nat.le_of_ble_eq_true rfl) dX12_saying_1 ⟨Nat.zero_le _, Nat.zero_le _⟩ (fun H locs hw => ?_)
  refine lv_if_ne (tgt := 13) hx hb dX12_saying_4 (by decide) (fun c12 => ?_) (fun c12 => ?_)
  · have hf := it_n c12 hf
    refine lv_aload_n hx hb dX12_saying_13 rfl (lv_at hl 0 rfl) ?_
    refine lv_iload_n hx hb dX12_saying_14 rfl (lv_at hl 1 rfl) ?_
    refine lv_iload_n hx hb dX12_saying_15 rfl (lv_at hl 2 rfl) ?_
    obtain ⟨q13, hq13, hf⟩ := bd hf
    refine g_Vi (As := [.int p1, .int p2]) (rest := []) ⟨hx, hb, hml, hown, hts⟩ (k_X12_isSaying hq13) (cwV 2 hts gX12_saying_X12_isSaying rfl rfl rfl (by decide +kernel) ⟨Nat.le_of_ble_eq_true rfl, Nat.le_of_ble_eq_true rfl⟩) STR_ok hst hK hw rfl eR_c0 rfl rfl hl.1 rfl (Nat.le_of_ble_eq_true rfl) dX12_saying_16 ⟨Nat.zero_le _, Nat.zero_le _⟩ (fun H locs hw => ?_)
    refine lv_if_eq (tgt := 31) hx hb dX12_saying_19 (by decide) (fun c14 => ?_) (fun c14 => ?_)
    · have hf := it_p c14 hf
      exact kb_X12_saying_b31 C0 hf hw (lv_sub hl [0] rfl)
    · have hf := it_n c14 hf
      refine lv_iload_n hx hb dX12_saying_22 rfl (lv_at hl 3 rfl) ?_
      refine lv_if_lt (tgt := 31) hx hb dX12_saying_23 (by decide) (fun c16 => ?_) (fun c16 => ?_)
      · have hf := it_p c16 hf
        exact kb_X12_saying_b31 C0 hf hw (lv_sub hl [0] rfl)
      · have hf := it_n c16 hf
        refine lv_iload_n hx hb dX12_saying_26 rfl (lv_at hl 3 rfl) ?_
        refine lv_iconst (v := 5) hx hb dX12_saying_27 (by decide) ?_
        refine lv_icmp_le (tgt := 37) hx hb dX12_saying_28 (by decide) (fun c17 => ?_) (fun c17 => ?_)
        · have hf := it_p c17 hf
          refine lv_aload_n hx hb dX12_saying_37 rfl (lv_at hl 0 rfl) ?_
          refine lv_iconst (v := 0) hx hb dX12_saying_38 (by decide) ?_
          refine g_put (ty := .int) hx hb hts i_X12 tyX12 tyX12_ok nmX12 hown hK hw 0 eR_c0 rfl 0 (by decide) L_70 (fun _ h => h) rfl (by decide +kernel) rfl rfl (Nat.le_of_ble_eq_true rfl) dX12_saying_39 (fun H locs hw => ?_)
          have hw : Wo D ad (Aw ad 19 s.heap.size) (eR ad y 0 m_taped m_size m_to m_from m_kind m_number m_fault m_place m_name m_happenings m_newHappenings m_heard m_outs m_bounds a_tape a_happened a_many a_sort a_one a_other a_low a_high a_begins a_out a_behind a_ahead a_most a_left a_far a_quarrel a_early a_earlyLast) s.heap H locs := hw
          refine lv_bipush (v := 12) hx hb dX12_saying_42 (by decide) ?_
          refine lv_iload_n hx hb dX12_saying_44 rfl (lv_at hl 1 rfl) ?_
          refine lv_imul hx hb dX12_saying_45 ?_
          refine lv_iload_n hx hb dX12_saying_46 rfl (lv_at hl 2 rfl) ?_
          refine lv_iadd hx hb dX12_saying_47 ?_
          refine lv_istore (lv' := [(4, .int ((12 * p1) + p2)), (0, .ref (ad 0)), (1, .int p1), (2, .int p2), (3, .int p3)]) hx hb dX12_saying_48 hl (by decide) rfl (fun ls hl => ?_)
          refine lv_iload_n hx hb dX12_saying_50 rfl (lv_at hl 4 rfl) ?_
          by_cases c18 : p3 = 0
          · have hf := it_p c18 hf
            refine lv_tableIn (tgt := 84) hx hb dX12_saying_51 (by rw [c18]; decide) (by rw [c18]; decide) (by rw [c18]; rfl) (by decide) ?_
            refine lv_aload_n hx hb dX12_saying_84 rfl (lv_at hl 1 rfl) ?_
            refine g_get hx hb hts i_X12 hown hK hw 0 eR_c0 rfl 15 (by decide) L_20 (fun _ h => h) rfl dX12_saying_85 ?_
            refine lv_iload hx hb dX12_saying_88 (lv_at hl 0 rfl) ?_
            obtain ⟨g19, hf⟩ := gIn_some hf
            refine g_iald hx hb hK hw 4 1 eR_c4 rfl g19 dX12_saying_90 ?_
            obtain rfl := so hf
            exact W.iret (v := (a_sort (Int32.toNatClampNeg ((12 * p1) + p2)))) hx hb hr (fun t ht _ => g_end hw t ht) hw.2.2.2.2 dX12_saying_91
          have hf := it_n c18 hf
          by_cases c20 : p3 = 1
          · have hf := it_p c20 hf
            refine lv_tableIn (tgt := 92) hx hb dX12_saying_51 (by rw [c20]; decide) (by rw [c20]; decide) (by rw [c20]; rfl) (by decide) ?_
            refine lv_aload_n hx hb dX12_saying_92 rfl (lv_at hl 1 rfl) ?_
            refine g_get hx hb hts i_X12 hown hK hw 0 eR_c0 rfl 16 (by decide) L_23 (fun _ h => h) rfl dX12_saying_93 ?_
            refine lv_iload hx hb dX12_saying_96 (lv_at hl 0 rfl) ?_
            obtain ⟨g21, hf⟩ := gIn_some hf
            refine g_iald hx hb hK hw 5 1 eR_c5 rfl g21 dX12_saying_98 ?_
            obtain rfl := so hf
            exact W.iret (v := (a_one (Int32.toNatClampNeg ((12 * p1) + p2)))) hx hb hr (fun t ht _ => g_end hw t ht) hw.2.2.2.2 dX12_saying_99
          have hf := it_n c20 hf
          by_cases c22 : p3 = 2
          · have hf := it_p c22 hf
            refine lv_tableIn (tgt := 100) hx hb dX12_saying_51 (by rw [c22]; decide) (by rw [c22]; decide) (by rw [c22]; rfl) (by decide) ?_
            refine lv_aload_n hx hb dX12_saying_100 rfl (lv_at hl 1 rfl) ?_
            refine g_get hx hb hts i_X12 hown hK hw 0 eR_c0 rfl 17 (by decide) L_26 (fun _ h => h) rfl dX12_saying_101 ?_
            refine lv_iload hx hb dX12_saying_104 (lv_at hl 0 rfl) ?_
            obtain ⟨g23, hf⟩ := gIn_some hf
            refine g_iald hx hb hK hw 6 1 eR_c6 rfl g23 dX12_saying_106 ?_
            obtain rfl := so hf
            exact W.iret (v := (a_other (Int32.toNatClampNeg ((12 * p1) + p2)))) hx hb hr (fun t ht _ => g_end hw t ht) hw.2.2.2.2 dX12_saying_107
          have hf := it_n c22 hf
          by_cases c24 : p3 = 3
          · have hf := it_p c24 hf
            refine lv_tableIn (tgt := 108) hx hb dX12_saying_51 (by rw [c24]; decide) (by rw [c24]; decide) (by rw [c24]; rfl) (by decide) ?_
            refine lv_aload_n hx hb dX12_saying_108 rfl (lv_at hl 1 rfl) ?_
            refine g_get hx hb hts i_X12 hown hK hw 0 eR_c0 rfl 18 (by decide) L_29 (fun _ h => h) rfl dX12_saying_109 ?_
            refine lv_iload hx hb dX12_saying_112 (lv_at hl 0 rfl) ?_
            obtain ⟨g25, hf⟩ := gIn_some hf
            refine g_iald hx hb hK hw 7 1 eR_c7 rfl g25 dX12_saying_114 ?_
            obtain rfl := so hf
            exact W.iret (v := (a_low (Int32.toNatClampNeg ((12 * p1) + p2)))) hx hb hr (fun t ht _ => g_end hw t ht) hw.2.2.2.2 dX12_saying_115
          have hf := it_n c24 hf
          by_cases c26 : p3 = 4
          · have hf := it_p c26 hf
            refine lv_tableIn (tgt := 116) hx hb dX12_saying_51 (by rw [c26]; decide) (by rw [c26]; decide) (by rw [c26]; rfl) (by decide) ?_
            refine lv_aload_n hx hb dX12_saying_116 rfl (lv_at hl 1 rfl) ?_
            refine g_get hx hb hts i_X12 hown hK hw 0 eR_c0 rfl 19 (by decide) L_32 (fun _ h => h) rfl dX12_saying_117 ?_
            refine lv_iload hx hb dX12_saying_120 (lv_at hl 0 rfl) ?_
            obtain ⟨g27, hf⟩ := gIn_some hf
            refine g_iald hx hb hK hw 8 1 eR_c8 rfl g27 dX12_saying_122 ?_
            obtain rfl := so hf
            exact W.iret (v := (a_high (Int32.toNatClampNeg ((12 * p1) + p2)))) hx hb hr (fun t ht _ => g_end hw t ht) hw.2.2.2.2 dX12_saying_123
          have hf := it_n c26 hf
          refine lv_tableOut (tgt := 124) hx hb dX12_saying_51 (by have nc18 := sw_ne c18 (0 : Int) (by decide); have nc20 := sw_ne c20 (1 : Int) (by decide); have nc22 := sw_ne c22 (2 : Int) (by decide); have nc24 := sw_ne c24 (3 : Int) (by decide); have nc26 := sw_ne c26 (4 : Int) (by decide); omega) (by decide) ?_
          refine lv_aload_n hx hb dX12_saying_124 rfl (lv_at hl 1 rfl) ?_
          refine g_get hx hb hts i_X12 hown hK hw 0 eR_c0 rfl 20 (by decide) L_35 (fun _ h => h) rfl dX12_saying_125 ?_
          refine lv_iload hx hb dX12_saying_128 (lv_at hl 0 rfl) ?_
          obtain ⟨g28, hf⟩ := gIn_some hf
          refine g_iald hx hb hK hw 9 1 eR_c9 rfl g28 dX12_saying_130 ?_
          obtain rfl := so hf
          exact W.iret (v := (a_begins (Int32.toNatClampNeg ((12 * p1) + p2)))) hx hb hr (fun t ht _ => g_end hw t ht) hw.2.2.2.2 dX12_saying_131
        · have hf := it_n c17 hf
          exact kb_X12_saying_b31 C0 hf hw (lv_sub hl [0] rfl)
  · have hf := it_p c12 hf
    refine lv_aload_n hx hb dX12_saying_7 rfl (lv_at hl 0 rfl) ?_
    refine lv_iconst (v := 1) hx hb dX12_saying_8 (by decide) ?_
    obtain ⟨q29, hq29, hf⟩ := bd hf
    refine g_Vi (As := [.int 1]) (rest := []) ⟨hx, hb, hml, hown, hts⟩ (k_X12_refuse hq29) (cwV 1 hts gX12_saying_X12_refuse rfl rfl rfl (by decide +kernel) ⟨Nat.le_of_ble_eq_true rfl, Nat.le_of_ble_eq_true rfl⟩) STR_ok hst hK hw rfl eR_c0 rfl rfl hl.1 rfl (Nat.le_of_ble_eq_true rfl) dX12_saying_9 ⟨Nat.zero_le _, Nat.zero_le _⟩ (fun H locs hw => ?_)
    have hw : Wo D ad (Aw ad 19 s.heap.size) (eR ad y q29.2 m_taped m_size m_to m_from m_kind m_number m_fault m_place m_name m_happenings m_newHappenings m_heard m_outs m_bounds a_tape a_happened a_many a_sort a_one a_other a_low a_high a_begins a_out a_behind a_ahead a_most a_left a_far a_quarrel a_early a_earlyLast) s.heap H locs := hw
    obtain rfl := so hf
    exact W.iret (v := q29.1) hx hb hr (fun t ht _ => g_end hw t ht) hw.2.2.2.2 dX12_saying_12
set_option maxHeartbeats 4000000 in
theorem k_X12_saying {l : Launch} {D : va_G} {ad : Nat → Nat} {y : Nat → ClassId} {m_thrown : Int32} {m_taped : Int32} {m_size : Int32} {m_to : Int32} {m_from : Int32} {m_kind : Int32} {m_number : Int32} {m_fault : Int32} {m_place : Int32} {m_name : Int64} {m_happenings : Int32} {m_newHappenings : Int32} {m_heard : Int32} {m_outs : Int32} {m_bounds : Int32} {a_tape : Nat → Int32} {a_happened : Nat → Int64} {a_many : Nat → Int32} {a_sort : Nat → Int32} {a_one : Nat → Int32} {a_other : Nat → Int32} {a_low : Nat → Int32} {a_high : Nat → Int32} {a_begins : Nat → Int32} {a_out : Nat → Int32} {a_behind : Nat → Int32} {a_ahead : Nat → Int32} {a_most : Nat → Int32} {a_left : Nat → Int32} {a_far : Nat → Int32} {a_quarrel : Nat → Int32} {a_early : Nat → Int32} {a_earlyLast : Nat → Int32} {p1 : Int32} {p2 : Int32} {p3 : Int32} {res : Int32 × Int32} (hf : f_X12_saying m_thrown a_many a_sort a_one a_other a_low a_high a_begins p1 p2 p3 = some res) : CTi l yX12_saying wsX12_saying rm_X12_saying D ad 19 (tyL y) (STR ad) (eR ad y m_thrown m_taped m_size m_to m_from m_kind m_number m_fault m_place m_name m_happenings m_newHappenings m_heard m_outs m_bounds a_tape a_happened a_many a_sort a_one a_other a_low a_high a_begins a_out a_behind a_ahead a_most a_left a_far a_quarrel a_early a_earlyLast) (eR ad y res.2 m_taped m_size m_to m_from m_kind m_number m_fault m_place m_name m_happenings m_newHappenings m_heard m_outs m_bounds a_tape a_happened a_many a_sort a_one a_other a_low a_high a_begins a_out a_behind a_ahead a_most a_left a_far a_quarrel a_early a_earlyLast) [.ref (ad 0), .int p1, .int p2, .int p3] res.1 := by
  intro sz
  refine Met.ofW (cc := cX12_saying) (maxL := 5) (ret := (some .int)) (by decide) rfl ?_
  intro p e s m args below meth c s₁ B hml hv
  obtain ⟨rfl, hsz, hP, hK, hD0, hst⟩ := hv
  subst hsz
  have C0 : CXT wsX12_saying cX12_saying RX12 5 (some .int) D (tyL y) (STR ad) p s m ([.ref (ad 0), .int p1, .int p2, .int p3] : List Value).toArray meth c := ⟨B.exec, B.bytes, B.returns, hml, findClass_of_methodNamed B.named, atoms_spec (ws := wsX12_saying) B.pre, B.notSynchronized, hK, hst⟩
  have hw := g_start (n := 19) rfl hP hD0
  have hl := lv_entry ([.ref (ad 0), .int p1, .int p2, .int p3]) (n := 5) (Nat.le_of_ble_eq_true rfl)
  rw [lg_entry_eq]
  generalize (lg_sl ([.ref (ad 0), .int p1, .int p2, .int p3]) ++ List.replicate (5 - (lg_sl ([.ref (ad 0), .int p1, .int p2, .int p3])).length) Slot.unset).toArray = ls at hl ⊢
  have hl : lv_has ls 5 [(0, .ref (ad 0)), (1, .int p1), (2, .int p2), (3, .int p3)] := hl
  exact ke_X12_saying C0 hf hw hl
abbrev rm_X12_happening : Room := { frames := 2, cells := 0, slots := 0, locals := 45 }
abbrev QM_X12_happening (below : List Frame) (args : Array Value) (s : State) (D : va_G) (ad : Nat → Nat) (y : Nat → ClassId) (m_fault : Int32) (m_place : Int32) (m_happenings : Int32) (m_newHappenings : Int32) (m_heard : Int32) (m_outs : Int32) (m_bounds : Int32) (a_tape : Nat → Int32) (a_happened : Nat → Int64) (a_many : Nat → Int32) (a_sort : Nat → Int32) (a_one : Nat → Int32) (a_other : Nat → Int32) (a_low : Nat → Int32) (a_high : Nat → Int32) (a_begins : Nat → Int32) (a_out : Nat → Int32) (a_behind : Nat → Int32) (a_ahead : Nat → Int32) (a_most : Nat → Int32) (a_left : Nat → Int32) (a_far : Nat → Int32) (a_quarrel : Nat → Int32) (a_early : Nat → Int32) (a_earlyLast : Nat → Int32) (res : Int32 × Int32 × Int32 × Int32 × Int32 × Int32 × Int32 × Int32 × Int64) : State → Prop := MQ below (va_Qi (fun x (_ : Unit) => x = res.1) (fun _ t => va_P D vwCl (wls ad (eR ad y res.2.1 res.2.2.1 res.2.2.2.1 res.2.2.2.2.1 res.2.2.2.2.2.1 res.2.2.2.2.2.2.1 res.2.2.2.2.2.2.2.1 m_fault m_place res.2.2.2.2.2.2.2.2 m_happenings m_newHappenings m_heard m_outs m_bounds a_tape a_happened a_many a_sort a_one a_other a_low a_high a_begins a_out a_behind a_ahead a_most a_left a_far a_quarrel a_early a_earlyLast)) t.heap) (Aw ad 19 s.heap.size)) args s 0 0 (Aw ad 19 s.heap.size)
set_option maxHeartbeats 4000000 in
set_option maxRecDepth 100000 in
theorem kw_X12_happening_100 {p : Program} {l : Launch} {e : Env} {s : State} {m : MethodId} {args : Array Value} {below : List Frame} {meth : Method} {c : Code} {D : va_G} {ad : Nat → Nat} {y : Nat → ClassId} (C0 : CXT wsX12_happening cX12_happening RX12 4 (some .int) D (tyL y) (STR ad) p s m args meth c) {m_thrown : Int32} {m_taped : Int32} {m_size : Int32} {m_to : Int32} {m_from : Int32} {m_kind : Int32} {m_number : Int32} {m_fault : Int32} {m_place : Int32} {m_name : Int64} {m_happenings : Int32} {m_newHappenings : Int32} {m_heard : Int32} {m_outs : Int32} {m_bounds : Int32} {a_tape : Nat → Int32} {a_happened : Nat → Int64} {a_many : Nat → Int32} {a_sort : Nat → Int32} {a_one : Nat → Int32} {a_other : Nat → Int32} {a_low : Nat → Int32} {a_high : Nat → Int32} {a_begins : Nat → Int32} {a_out : Nat → Int32} {a_behind : Nat → Int32} {a_ahead : Nat → Int32} {a_most : Nat → Int32} {a_left : Nat → Int32} {a_far : Nat → Int32} {a_quarrel : Nat → Int32} {a_early : Nat → Int32} {a_earlyLast : Nat → Int32} {u1 : Int64} {res : Int32 × Int32 × Int32 × Int32 × Int32 × Int32 × Int32 × Int32 × Int64} {sg : Int32} {o : (Int32) ⊕ ((Int32) ⊕ (Int32 × Int32 × Int32 × Int32 × Int32 × Int32 × Int32 × Int32 × Int64))} (hf : f_X12_happening_l100 m_thrown m_taped m_size m_to m_from m_kind m_number m_name m_happenings a_tape a_happened u1 sg = some o) {H : Heap} {locs : List Loc} {ls : Array Slot} (hw : Wo D ad (Aw ad 19 s.heap.size) (eR ad y m_thrown m_taped m_size m_to m_from m_kind m_number m_fault m_place m_name m_happenings m_newHappenings m_heard m_outs m_bounds a_tape a_happened a_many a_sort a_one a_other a_low a_high a_begins a_out a_behind a_ahead a_most a_left a_far a_quarrel a_early a_earlyLast) s.heap H locs) (hl : lv_has ls 4 [(0, .ref (ad 0)), (1, .long u1), (3, .int sg)]) (hcont : ∀ s2, o = .inl s2 → ∀ (H : Heap) (locs : List Loc) (ls : Array Slot), Wo D ad (Aw ad 19 s.heap.size) (eR ad y m_thrown m_taped m_size m_to m_from m_kind m_number m_fault m_place m_name m_happenings m_newHappenings m_heard m_outs m_bounds a_tape a_happened a_many a_sort a_one a_other a_low a_high a_begins a_out a_behind a_ahead a_most a_left a_far a_quarrel a_early a_earlyLast) s.heap H locs → lv_has ls 4 [(0, .ref (ad 0)), (1, .long u1), (3, .int s2)] → W p l e rm_X12_happening s m args below meth c H locs 0 0 (QM_X12_happening below args s D ad y (m_fault) (m_place) (m_happenings) (m_newHappenings) (m_heard) (m_outs) (m_bounds) (a_tape) (a_happened) (a_many) (a_sort) (a_one) (a_other) (a_low) (a_high) (a_begins) (a_out) (a_behind) (a_ahead) (a_most) (a_left) (a_far) (a_quarrel) (a_early) (a_earlyLast) res) (F0 m 100 ls [])) (hexit : ∀ t, o = .inr (.inl t) → ∀ (H : Heap) (locs : List Loc) (ls : Array Slot), Wo D ad (Aw ad 19 s.heap.size) (eR ad y m_thrown m_taped m_size m_to m_from m_kind m_number m_fault m_place m_name m_happenings m_newHappenings m_heard m_outs m_bounds a_tape a_happened a_many a_sort a_one a_other a_low a_high a_begins a_out a_behind a_ahead a_most a_left a_far a_quarrel a_early a_earlyLast) s.heap H locs → lv_has ls 4 [(0, .ref (ad 0)), (1, .long u1), (3, .int t)] → W p l e rm_X12_happening s m args below meth c H locs 0 0 (QM_X12_happening below args s D ad y (m_fault) (m_place) (m_happenings) (m_newHappenings) (m_heard) (m_outs) (m_bounds) (a_tape) (a_happened) (a_many) (a_sort) (a_one) (a_other) (a_low) (a_high) (a_begins) (a_out) (a_behind) (a_ahead) (a_most) (a_left) (a_far) (a_quarrel) (a_early) (a_earlyLast) res) (F0 m 127 ls [])) (hret : ∀ r, o = .inr (.inr r) → r = res) : W p l e rm_X12_happening s m args below meth c H locs 0 0 (QM_X12_happening below args s D ad y (m_fault) (m_place) (m_happenings) (m_newHappenings) (m_heard) (m_outs) (m_bounds) (a_tape) (a_happened) (a_many) (a_sort) (a_one) (a_other) (a_low) (a_high) (a_begins) (a_out) (a_behind) (a_ahead) (a_most) (a_left) (a_far) (a_quarrel) (a_early) (a_earlyLast) res) (F0 m 100 ls []) := by
  obtain ⟨hx, hb, hr, hml, hown, hts, hlocks, hK, hst⟩ := id C0
  have i_X12 : ∀ w ∈ u_ws RX12 TX12 33, w ∈ wsX12_happening := by decide +kernel
  have L_181 := hts (.fieldLink RX12 181 "CaseOrderModel" "happenings" "I") (by decide +kernel)
  have L_13 := hts (.fieldLink RX12 13 "CaseOrderModel" "happened" "[J") (by decide +kernel)
  unfold f_X12_happening_l100 at hf
  refine lv_iload_n hx hb dX12_happening_100 rfl (lv_at hl 2 rfl) ?_
  refine lv_aload_n hx hb dX12_happening_101 rfl (lv_at hl 0 rfl) ?_
  refine g_get hx hb hts i_X12 hown hK hw 0 eR_c0 rfl 12 (by decide) L_181 (fun _ h => h) rfl dX12_happening_102 ?_
  refine lv_icmp_ge (tgt := 127) hx hb dX12_happening_105 (by decide) (fun c18 => ?_) (fun c18 => ?_)
  · have hf := it_p c18 hf
    exact hexit _ (so hf).symm _ _ _ hw (lv_sub hl [0, 1, 2] rfl)
  · have hf := it_n c18 hf
    refine lv_aload_n hx hb dX12_happening_108 rfl (lv_at hl 0 rfl) ?_
    refine g_get hx hb hts i_X12 hown hK hw 0 eR_c0 rfl 11 (by decide) L_13 (fun _ h => h) rfl dX12_happening_109 ?_
    refine lv_iload_n hx hb dX12_happening_112 rfl (lv_at hl 2 rfl) ?_
    obtain ⟨g19, hf⟩ := gIn_some hf
    refine g_lald hx hb hK hw 2 3 eR_c2 rfl g19 dX12_happening_113 ?_
    refine lv_lload_n hx hb dX12_happening_114 rfl (lv_at hl 1 rfl) ?_
    refine W.lcmp hx hb dX12_happening_115 ?_
    refine lv_if_ne (tgt := 121) hx hb dX12_happening_116 (by decide) (fun c20 => ?_) (fun c20 => ?_)
    · have hf := it_n c20 hf
      refine lv_iinc (v := sg + 1) (lv' := [(3, .int (sg + 1)), (0, .ref (ad 0)), (1, .long u1)]) hx hb dX12_happening_121 hl (k := 2) rfl rfl (by decide) rfl (fun ls hl => ?_)
      refine lv_goto (tgt := 100) hx hb dX12_happening_124 (by decide) ?_
      exact hcont _ (so hf).symm _ _ _ hw (lv_sub hl [1, 2, 0] rfl)
    · have hf := it_p c20 hf
      refine lv_iload_n hx hb dX12_happening_119 rfl (lv_at hl 2 rfl) ?_
      obtain rfl := hret _ (so hf).symm
      exact W.iret (v := sg) hx hb hr (fun t ht _ => g_end hw t ht) hw.2.2.2.2 dX12_happening_120
set_option maxHeartbeats 4000000 in
theorem kl_X12_happening_100 {p : Program} {l : Launch} {e : Env} {s : State} {m : MethodId} {args : Array Value} {below : List Frame} {meth : Method} {c : Code} {D : va_G} {ad : Nat → Nat} {y : Nat → ClassId} (C0 : CXT wsX12_happening cX12_happening RX12 4 (some .int) D (tyL y) (STR ad) p s m args meth c) {m_thrown : Int32} {m_taped : Int32} {m_size : Int32} {m_to : Int32} {m_from : Int32} {m_kind : Int32} {m_number : Int32} {m_fault : Int32} {m_place : Int32} {m_name : Int64} {m_happenings : Int32} {m_newHappenings : Int32} {m_heard : Int32} {m_outs : Int32} {m_bounds : Int32} {a_tape : Nat → Int32} {a_happened : Nat → Int64} {a_many : Nat → Int32} {a_sort : Nat → Int32} {a_one : Nat → Int32} {a_other : Nat → Int32} {a_low : Nat → Int32} {a_high : Nat → Int32} {a_begins : Nat → Int32} {a_out : Nat → Int32} {a_behind : Nat → Int32} {a_ahead : Nat → Int32} {a_most : Nat → Int32} {a_left : Nat → Int32} {a_far : Nat → Int32} {a_quarrel : Nat → Int32} {a_early : Nat → Int32} {a_earlyLast : Nat → Int32} {u1 : Int64} {res : Int32 × Int32 × Int32 × Int32 × Int32 × Int32 × Int32 × Int32 × Int64} : ∀ (n : Nat) (sg : Int32) (q : (Int32) ⊕ (Int32 × Int32 × Int32 × Int32 × Int32 × Int32 × Int32 × Int32 × Int64)), lp (f_X12_happening_l100 m_thrown m_taped m_size m_to m_from m_kind m_number m_name m_happenings a_tape a_happened u1) n sg = some q → ∀ (H : Heap) (locs : List Loc) (ls : Array Slot), Wo D ad (Aw ad 19 s.heap.size) (eR ad y m_thrown m_taped m_size m_to m_from m_kind m_number m_fault m_place m_name m_happenings m_newHappenings m_heard m_outs m_bounds a_tape a_happened a_many a_sort a_one a_other a_low a_high a_begins a_out a_behind a_ahead a_most a_left a_far a_quarrel a_early a_earlyLast) s.heap H locs → lv_has ls 4 [(0, .ref (ad 0)), (1, .long u1), (3, .int sg)] → (∀ t, q = .inl t → ∀ (H : Heap) (locs : List Loc) (ls : Array Slot), Wo D ad (Aw ad 19 s.heap.size) (eR ad y m_thrown m_taped m_size m_to m_from m_kind m_number m_fault m_place m_name m_happenings m_newHappenings m_heard m_outs m_bounds a_tape a_happened a_many a_sort a_one a_other a_low a_high a_begins a_out a_behind a_ahead a_most a_left a_far a_quarrel a_early a_earlyLast) s.heap H locs → lv_has ls 4 [(0, .ref (ad 0)), (1, .long u1), (3, .int t)] → W p l e rm_X12_happening s m args below meth c H locs 0 0 (QM_X12_happening below args s D ad y (m_fault) (m_place) (m_happenings) (m_newHappenings) (m_heard) (m_outs) (m_bounds) (a_tape) (a_happened) (a_many) (a_sort) (a_one) (a_other) (a_low) (a_high) (a_begins) (a_out) (a_behind) (a_ahead) (a_most) (a_left) (a_far) (a_quarrel) (a_early) (a_earlyLast) res) (F0 m 127 ls [])) → (∀ r, q = .inr r → r = res) → W p l e rm_X12_happening s m args below meth c H locs 0 0 (QM_X12_happening below args s D ad y (m_fault) (m_place) (m_happenings) (m_newHappenings) (m_heard) (m_outs) (m_bounds) (a_tape) (a_happened) (a_many) (a_sort) (a_one) (a_other) (a_low) (a_high) (a_begins) (a_out) (a_behind) (a_ahead) (a_most) (a_left) (a_far) (a_quarrel) (a_early) (a_earlyLast) res) (F0 m 100 ls []) := by
  intro n
  induction n with
  | zero => intro sg q hf; exact absurd hf lp_zero
  | succ n ih =>
    intro sg q hf H locs ls hw hl hexit hret
    rcases lp_succ hf with ⟨sg2, h1, h2⟩ | h1
    · exact kw_X12_happening_100 C0 h1 hw hl (fun s2 e2 H locs ls hw hl => by cases e2; exact ih _ q h2 H locs ls hw hl hexit hret) (fun t e2 => by cases e2) (fun r e2 => by cases e2)
    · exact kw_X12_happening_100 C0 h1 hw hl (fun s2 e2 => by cases e2) (fun t e2 => by cases e2; exact hexit t rfl) (fun r e2 => by cases e2; exact hret r rfl)
set_option maxHeartbeats 4000000 in
set_option maxRecDepth 100000 in
theorem ke_X12_happening {p : Program} {l : Launch} {e : Env} {s : State} {m : MethodId} {args : Array Value} {below : List Frame} {meth : Method} {c : Code} {D : va_G} {ad : Nat → Nat} {y : Nat → ClassId} (C0 : CXT wsX12_happening cX12_happening RX12 4 (some .int) D (tyL y) (STR ad) p s m args meth c) {m_thrown : Int32} {m_taped : Int32} {m_size : Int32} {m_to : Int32} {m_from : Int32} {m_kind : Int32} {m_number : Int32} {m_fault : Int32} {m_place : Int32} {m_name : Int64} {m_happenings : Int32} {m_newHappenings : Int32} {m_heard : Int32} {m_outs : Int32} {m_bounds : Int32} {a_tape : Nat → Int32} {a_happened : Nat → Int64} {a_many : Nat → Int32} {a_sort : Nat → Int32} {a_one : Nat → Int32} {a_other : Nat → Int32} {a_low : Nat → Int32} {a_high : Nat → Int32} {a_begins : Nat → Int32} {a_out : Nat → Int32} {a_behind : Nat → Int32} {a_ahead : Nat → Int32} {a_most : Nat → Int32} {a_left : Nat → Int32} {a_far : Nat → Int32} {a_quarrel : Nat → Int32} {a_early : Nat → Int32} {a_earlyLast : Nat → Int32}  {res : Int32 × Int32 × Int32 × Int32 × Int32 × Int32 × Int32 × Int32 × Int64} (hf : f_X12_happening m_thrown m_taped m_size m_to m_from m_kind m_number m_name m_happenings a_tape a_happened = some res) {H : Heap} {locs : List Loc} {ls : Array Slot} (hw : Wo D ad (Aw ad 19 s.heap.size) (eR ad y m_thrown m_taped m_size m_to m_from m_kind m_number m_fault m_place m_name m_happenings m_newHappenings m_heard m_outs m_bounds a_tape a_happened a_many a_sort a_one a_other a_low a_high a_begins a_out a_behind a_ahead a_most a_left a_far a_quarrel a_early a_earlyLast) s.heap H locs) (hl : lv_has ls 4 [(0, .ref (ad 0))]) : W p l e rm_X12_happening s m args below meth c H locs 0 0 (QM_X12_happening below args s D ad y (m_fault) (m_place) (m_happenings) (m_newHappenings) (m_heard) (m_outs) (m_bounds) (a_tape) (a_happened) (a_many) (a_sort) (a_one) (a_other) (a_low) (a_high) (a_begins) (a_out) (a_behind) (a_ahead) (a_most) (a_left) (a_far) (a_quarrel) (a_early) (a_earlyLast) res) (F0 m 0 ls []) := by
  obtain ⟨hx, hb, hr, hml, hown, hts, hlocks, hK, hst⟩ := id C0
  have i_X12 : ∀ w ∈ u_ws RX12 TX12 33, w ∈ wsX12_happening := by decide +kernel
  have L_70 := hts (.fieldLink RX12 70 "CaseOrderModel" "thrown" "I") (by decide +kernel)
  have L_73 := hts (.fieldLink RX12 73 "CaseOrderModel" "taped" "I") (by decide +kernel)
  have L_83 := hts (.fieldLink RX12 83 "CaseOrderModel" "size" "I") (by decide +kernel)
  have L_80 := hts (.fieldLink RX12 80 "CaseOrderModel" "to" "I") (by decide +kernel)
  have L_89 := hts (.fieldLink RX12 89 "CaseOrderModel" "from" "I") (by decide +kernel)
  have L_7 := hts (.fieldLink RX12 7 "CaseOrderModel" "tape" "[I") (by decide +kernel)
  have L_105 := hts (.fieldLink RX12 105 "CaseOrderModel" "name" "J") (by decide +kernel)
  unfold f_X12_happening at hf
  refine lv_aload_n hx hb dX12_happening_0 rfl (lv_at hl 0 rfl) ?_
  refine lv_iconst (v := 0) hx hb dX12_happening_1 (by decide) ?_
  refine g_put (ty := .int) hx hb hts i_X12 tyX12 tyX12_ok nmX12 hown hK hw 0 eR_c0 rfl 0 (by decide) L_70 (fun _ h => h) rfl (by decide +kernel) rfl rfl (Nat.le_of_ble_eq_true rfl) dX12_happening_2 (fun H locs hw => ?_)
  have hw : Wo D ad (Aw ad 19 s.heap.size) (eR ad y 0 m_taped m_size m_to m_from m_kind m_number m_fault m_place m_name m_happenings m_newHappenings m_heard m_outs m_bounds a_tape a_happened a_many a_sort a_one a_other a_low a_high a_begins a_out a_behind a_ahead a_most a_left a_far a_quarrel a_early a_earlyLast) s.heap H locs := hw
  refine lv_aload_n hx hb dX12_happening_5 rfl (lv_at hl 0 rfl) ?_
  refine lv_aload_n hx hb dX12_happening_6 rfl (lv_at hl 0 rfl) ?_
  refine g_get hx hb hts i_X12 hown hK hw 0 eR_c0 rfl 2 (by decide) L_73 (fun _ h => h) rfl dX12_happening_7 ?_
  refine g_put (ty := .int) hx hb hts i_X12 tyX12 tyX12_ok nmX12 hown hK hw 0 eR_c0 rfl 3 (by decide) L_83 (fun _ h => h) rfl (by decide +kernel) rfl rfl (Nat.le_of_ble_eq_true rfl) dX12_happening_10 (fun H locs hw => ?_)
  have hw : Wo D ad (Aw ad 19 s.heap.size) (eR ad y 0 m_taped m_taped m_to m_from m_kind m_number m_fault m_place m_name m_happenings m_newHappenings m_heard m_outs m_bounds a_tape a_happened a_many a_sort a_one a_other a_low a_high a_begins a_out a_behind a_ahead a_most a_left a_far a_quarrel a_early a_earlyLast) s.heap H locs := hw
  refine lv_aload_n hx hb dX12_happening_13 rfl (lv_at hl 0 rfl) ?_
  refine lv_iconst (v := 0) hx hb dX12_happening_14 (by decide) ?_
  refine g_put (ty := .int) hx hb hts i_X12 tyX12 tyX12_ok nmX12 hown hK hw 0 eR_c0 rfl 2 (by decide) L_73 (fun _ h => h) rfl (by decide +kernel) rfl rfl (Nat.le_of_ble_eq_true rfl) dX12_happening_15 (fun H locs hw => ?_)
  have hw : Wo D ad (Aw ad 19 s.heap.size) (eR ad y 0 0 m_taped m_to m_from m_kind m_number m_fault m_place m_name m_happenings m_newHappenings m_heard m_outs m_bounds a_tape a_happened a_many a_sort a_one a_other a_low a_high a_begins a_out a_behind a_ahead a_most a_left a_far a_quarrel a_early a_earlyLast) s.heap H locs := hw
  refine lv_aload_n hx hb dX12_happening_18 rfl (lv_at hl 0 rfl) ?_
  refine lv_iconst (v := 0) hx hb dX12_happening_19 (by decide) ?_
  refine g_put (ty := .int) hx hb hts i_X12 tyX12 tyX12_ok nmX12 hown hK hw 0 eR_c0 rfl 4 (by decide) L_80 (fun _ h => h) rfl (by decide +kernel) rfl rfl (Nat.le_of_ble_eq_true rfl) dX12_happening_20 (fun H locs hw => ?_)
  have hw : Wo D ad (Aw ad 19 s.heap.size) (eR ad y 0 0 m_taped 0 m_from m_kind m_number m_fault m_place m_name m_happenings m_newHappenings m_heard m_outs m_bounds a_tape a_happened a_many a_sort a_one a_other a_low a_high a_begins a_out a_behind a_ahead a_most a_left a_far a_quarrel a_early a_earlyLast) s.heap H locs := hw
  refine lv_aload_n hx hb dX12_happening_23 rfl (lv_at hl 0 rfl) ?_
  obtain ⟨q8, hq8, hf⟩ := bd hf
  refine g_Vv (As := []) (rest := []) ⟨hx, hb, hml, hown, hts⟩ (k_X12_blanks hq8) (cwV 0 hts gX12_happening_X12_blanks rfl rfl rfl (by decide +kernel) ⟨Nat.le_of_ble_eq_true rfl, Nat.le_of_ble_eq_true rfl⟩) STR_ok hst hK hw rfl eR_c0 rfl rfl hl.1 rfl (Nat.le_of_ble_eq_true rfl) dX12_happening_24 ⟨Nat.zero_le _, Nat.zero_le _⟩ (fun H locs hw => ?_)
  have hw : Wo D ad (Aw ad 19 s.heap.size) (eR ad y 0 0 m_taped q8 m_from m_kind m_number m_fault m_place m_name m_happenings m_newHappenings m_heard m_outs m_bounds a_tape a_happened a_many a_sort a_one a_other a_low a_high a_begins a_out a_behind a_ahead a_most a_left a_far a_quarrel a_early a_earlyLast) s.heap H locs := hw
  refine lv_aload_n hx hb dX12_happening_27 rfl (lv_at hl 0 rfl) ?_
  refine lv_aload_n hx hb dX12_happening_28 rfl (lv_at hl 0 rfl) ?_
  refine g_get hx hb hts i_X12 hown hK hw 0 eR_c0 rfl 4 (by decide) L_80 (fun _ h => h) rfl dX12_happening_29 ?_
  refine g_put (ty := .int) hx hb hts i_X12 tyX12 tyX12_ok nmX12 hown hK hw 0 eR_c0 rfl 5 (by decide) L_89 (fun _ h => h) rfl (by decide +kernel) rfl rfl (Nat.le_of_ble_eq_true rfl) dX12_happening_32 (fun H locs hw => ?_)
  have hw : Wo D ad (Aw ad 19 s.heap.size) (eR ad y 0 0 m_taped q8 q8 m_kind m_number m_fault m_place m_name m_happenings m_newHappenings m_heard m_outs m_bounds a_tape a_happened a_many a_sort a_one a_other a_low a_high a_begins a_out a_behind a_ahead a_most a_left a_far a_quarrel a_early a_earlyLast) s.heap H locs := hw
  refine lv_aload_n hx hb dX12_happening_35 rfl (lv_at hl 0 rfl) ?_
  refine g_get hx hb hts i_X12 hown hK hw 0 eR_c0 rfl 4 (by decide) L_80 (fun _ h => h) rfl dX12_happening_36 ?_
  refine lv_aload_n hx hb dX12_happening_39 rfl (lv_at hl 0 rfl) ?_
  refine g_get hx hb hts i_X12 hown hK hw 0 eR_c0 rfl 3 (by decide) L_83 (fun _ h => h) rfl dX12_happening_40 ?_
  refine lv_icmp_ge (tgt := 61) hx hb dX12_happening_43 (by decide) (fun c9 => ?_) (fun c9 => ?_)
  · have hf := it_p c9 hf
    refine lv_iconst (v := (-1)) hx hb dX12_happening_61 (by decide) ?_
    obtain rfl := so hf
    exact W.iret (v := (-1)) hx hb hr (fun t ht _ => g_end hw t ht) hw.2.2.2.2 dX12_happening_62
  · have hf := it_n c9 hf
    refine lv_aload_n hx hb dX12_happening_46 rfl (lv_at hl 0 rfl) ?_
    refine g_get hx hb hts i_X12 hown hK hw 0 eR_c0 rfl 1 (by decide) L_7 (fun _ h => h) rfl dX12_happening_47 ?_
    refine lv_aload_n hx hb dX12_happening_50 rfl (lv_at hl 0 rfl) ?_
    refine g_get hx hb hts i_X12 hown hK hw 0 eR_c0 rfl 4 (by decide) L_80 (fun _ h => h) rfl dX12_happening_51 ?_
    obtain ⟨g10, hf⟩ := gIn_some hf
    refine g_iald hx hb hK hw 1 1 eR_c1 rfl g10 dX12_happening_54 ?_
    obtain ⟨q11, hq11, hf⟩ := bd hf
    refine g_Si (As := [.int (a_tape (Int32.toNatClampNeg q8))]) (rest := []) ⟨hx, hb, hml, hown, hts⟩ (k_X12_isLetter hq11) (va_cwS 1 hts gX12_happening_X12_isLetter rfl rfl rfl (by decide +kernel) ⟨Nat.le_of_ble_eq_true rfl, Nat.le_of_ble_eq_true rfl⟩) STR_ok hst hK hw rfl rfl hl.1 rfl (Nat.le_of_ble_eq_true rfl) dX12_happening_55 ⟨Nat.zero_le _, Nat.zero_le _⟩ (fun H locs hw => ?_)
    refine lv_if_ne (tgt := 63) hx hb dX12_happening_58 (by decide) (fun c12 => ?_) (fun c12 => ?_)
    · have hf := it_n c12 hf
      refine lv_aload_n hx hb dX12_happening_63 rfl (lv_at hl 0 rfl) ?_
      obtain ⟨q13, hq13, hf⟩ := bd hf
      refine g_Vv (As := []) (rest := []) ⟨hx, hb, hml, hown, hts⟩ (k_X12_readWord hq13) (cwV 0 hts gX12_happening_X12_readWord rfl rfl rfl (by decide +kernel) ⟨Nat.le_of_ble_eq_true rfl, Nat.le_of_ble_eq_true rfl⟩) STR_ok hst hK hw rfl eR_c0 rfl rfl hl.1 rfl (Nat.le_of_ble_eq_true rfl) dX12_happening_64 ⟨Nat.zero_le _, Nat.zero_le _⟩ (fun H locs hw => ?_)
      have hw : Wo D ad (Aw ad 19 s.heap.size) (eR ad y 0 0 m_taped q13.1 q8 q13.2.1 q13.2.2.1 m_fault m_place q13.2.2.2 m_happenings m_newHappenings m_heard m_outs m_bounds a_tape a_happened a_many a_sort a_one a_other a_low a_high a_begins a_out a_behind a_ahead a_most a_left a_far a_quarrel a_early a_earlyLast) s.heap H locs := hw
      refine lv_aload_n hx hb dX12_happening_67 rfl (lv_at hl 0 rfl) ?_
      obtain ⟨q14, hq14, hf⟩ := bd hf
      refine g_Vi (As := []) (rest := []) ⟨hx, hb, hml, hown, hts⟩ (k_X12_isFree hq14) (cwV 0 hts gX12_happening_X12_isFree rfl rfl rfl (by decide +kernel) ⟨Nat.le_of_ble_eq_true rfl, Nat.le_of_ble_eq_true rfl⟩) STR_ok hst hK hw rfl eR_c0 rfl rfl hl.1 rfl (Nat.le_of_ble_eq_true rfl) dX12_happening_68 ⟨Nat.zero_le _, Nat.zero_le _⟩ (fun H locs hw => ?_)
      refine lv_if_ne (tgt := 76) hx hb dX12_happening_71 (by decide) (fun c15 => ?_) (fun c15 => ?_)
      · have hf := it_n c15 hf
        refine lv_aload_n hx hb dX12_happening_76 rfl (lv_at hl 0 rfl) ?_
        refine g_get hx hb hts i_X12 hown hK hw 0 eR_c0 rfl 10 (by decide) L_105 (fun _ h => h) rfl dX12_happening_77 ?_
        refine lv_lstore_n (lv' := [(1, .long q13.2.2.2), (0, .ref (ad 0))]) hx hb dX12_happening_80 rfl hl (by decide) rfl (fun ls hl => ?_)
        refine lv_aload_n hx hb dX12_happening_81 rfl (lv_at hl 1 rfl) ?_
        obtain ⟨q16, hq16, hf⟩ := bd hf
        refine g_Vv (As := []) (rest := []) ⟨hx, hb, hml, hown, hts⟩ (k_X12_blanks hq16) (cwV 0 hts gX12_happening_X12_blanks rfl rfl rfl (by decide +kernel) ⟨Nat.le_of_ble_eq_true rfl, Nat.le_of_ble_eq_true rfl⟩) STR_ok hst hK hw rfl eR_c0 rfl rfl hl.1 rfl (Nat.le_of_ble_eq_true rfl) dX12_happening_82 ⟨Nat.zero_le _, Nat.zero_le _⟩ (fun H locs hw => ?_)
        have hw : Wo D ad (Aw ad 19 s.heap.size) (eR ad y 0 0 m_taped q16 q8 q13.2.1 q13.2.2.1 m_fault m_place q13.2.2.2 m_happenings m_newHappenings m_heard m_outs m_bounds a_tape a_happened a_many a_sort a_one a_other a_low a_high a_begins a_out a_behind a_ahead a_most a_left a_far a_quarrel a_early a_earlyLast) s.heap H locs := hw
        refine lv_aload_n hx hb dX12_happening_85 rfl (lv_at hl 1 rfl) ?_
        refine g_get hx hb hts i_X12 hown hK hw 0 eR_c0 rfl 4 (by decide) L_80 (fun _ h => h) rfl dX12_happening_86 ?_
        refine lv_aload_n hx hb dX12_happening_89 rfl (lv_at hl 1 rfl) ?_
        refine g_get hx hb hts i_X12 hown hK hw 0 eR_c0 rfl 3 (by decide) L_83 (fun _ h => h) rfl dX12_happening_90 ?_
        refine lv_icmp_ge (tgt := 98) hx hb dX12_happening_93 (by decide) (fun c17 => ?_) (fun c17 => ?_)
        · have hf := it_p c17 hf
          refine lv_iconst (v := 0) hx hb dX12_happening_98 (by decide) ?_
          refine lv_istore_n (lv' := [(3, .int 0), (1, .long q13.2.2.2), (0, .ref (ad 0))]) hx hb dX12_happening_99 rfl hl (by decide) rfl (fun ls hl => ?_)
          obtain ⟨q21, hq21, hf⟩ := bd hf
          refine kl_X12_happening_100 C0 gFU _ _ hq21 _ _ _ hw (lv_sub hl [2, 1, 0] rfl) (fun t22 et22 H locs ls hw hl => ?_) (fun r23 er23 => ?_)
          · rw [et22] at hf
            have hf := el_l hf
            have hw : Wo D ad (Aw ad 19 s.heap.size) (eR ad y 0 0 m_taped q16 q8 q13.2.1 q13.2.2.1 m_fault m_place q13.2.2.2 m_happenings m_newHappenings m_heard m_outs m_bounds a_tape a_happened a_many a_sort a_one a_other a_low a_high a_begins a_out a_behind a_ahead a_most a_left a_far a_quarrel a_early a_earlyLast) s.heap H locs := hw
            have hl : lv_has ls 4 [(0, .ref (ad 0)), (1, .long q13.2.2.2), (3, .int t22)] := hl
            refine lv_iconst (v := (-1)) hx hb dX12_happening_127 (by decide) ?_
            obtain rfl := so hf
            exact W.iret (v := (-1)) hx hb hr (fun t ht _ => g_end hw t ht) hw.2.2.2.2 dX12_happening_128
          · rw [er23] at hf
            have hf := el_r hf
            exact so hf
        · have hf := it_n c17 hf
          refine lv_iconst (v := (-1)) hx hb dX12_happening_96 (by decide) ?_
          obtain rfl := so hf
          exact W.iret (v := (-1)) hx hb hr (fun t ht _ => g_end hw t ht) hw.2.2.2.2 dX12_happening_97
      · have hf := it_p c15 hf
        refine lv_iconst (v := (-1)) hx hb dX12_happening_74 (by decide) ?_
        obtain rfl := so hf
        exact W.iret (v := (-1)) hx hb hr (fun t ht _ => g_end hw t ht) hw.2.2.2.2 dX12_happening_75
    · have hf := it_p c12 hf
      refine lv_iconst (v := (-1)) hx hb dX12_happening_61 (by decide) ?_
      obtain rfl := so hf
      exact W.iret (v := (-1)) hx hb hr (fun t ht _ => g_end hw t ht) hw.2.2.2.2 dX12_happening_62
set_option maxHeartbeats 4000000 in
theorem k_X12_happening {l : Launch} {D : va_G} {ad : Nat → Nat} {y : Nat → ClassId} {m_thrown : Int32} {m_taped : Int32} {m_size : Int32} {m_to : Int32} {m_from : Int32} {m_kind : Int32} {m_number : Int32} {m_fault : Int32} {m_place : Int32} {m_name : Int64} {m_happenings : Int32} {m_newHappenings : Int32} {m_heard : Int32} {m_outs : Int32} {m_bounds : Int32} {a_tape : Nat → Int32} {a_happened : Nat → Int64} {a_many : Nat → Int32} {a_sort : Nat → Int32} {a_one : Nat → Int32} {a_other : Nat → Int32} {a_low : Nat → Int32} {a_high : Nat → Int32} {a_begins : Nat → Int32} {a_out : Nat → Int32} {a_behind : Nat → Int32} {a_ahead : Nat → Int32} {a_most : Nat → Int32} {a_left : Nat → Int32} {a_far : Nat → Int32} {a_quarrel : Nat → Int32} {a_early : Nat → Int32} {a_earlyLast : Nat → Int32}  {res : Int32 × Int32 × Int32 × Int32 × Int32 × Int32 × Int32 × Int32 × Int64} (hf : f_X12_happening m_thrown m_taped m_size m_to m_from m_kind m_number m_name m_happenings a_tape a_happened = some res) : CTi l yX12_happening wsX12_happening rm_X12_happening D ad 19 (tyL y) (STR ad) (eR ad y m_thrown m_taped m_size m_to m_from m_kind m_number m_fault m_place m_name m_happenings m_newHappenings m_heard m_outs m_bounds a_tape a_happened a_many a_sort a_one a_other a_low a_high a_begins a_out a_behind a_ahead a_most a_left a_far a_quarrel a_early a_earlyLast) (eR ad y res.2.1 res.2.2.1 res.2.2.2.1 res.2.2.2.2.1 res.2.2.2.2.2.1 res.2.2.2.2.2.2.1 res.2.2.2.2.2.2.2.1 m_fault m_place res.2.2.2.2.2.2.2.2 m_happenings m_newHappenings m_heard m_outs m_bounds a_tape a_happened a_many a_sort a_one a_other a_low a_high a_begins a_out a_behind a_ahead a_most a_left a_far a_quarrel a_early a_earlyLast) [.ref (ad 0)] res.1 := by
  intro sz
  refine Met.ofW (cc := cX12_happening) (maxL := 4) (ret := (some .int)) (by decide) rfl ?_
  intro p e s m args below meth c s₁ B hml hv
  obtain ⟨rfl, hsz, hP, hK, hD0, hst⟩ := hv
  subst hsz
  have C0 : CXT wsX12_happening cX12_happening RX12 4 (some .int) D (tyL y) (STR ad) p s m ([.ref (ad 0)] : List Value).toArray meth c := ⟨B.exec, B.bytes, B.returns, hml, findClass_of_methodNamed B.named, atoms_spec (ws := wsX12_happening) B.pre, B.notSynchronized, hK, hst⟩
  have hw := g_start (n := 19) rfl hP hD0
  have hl := lv_entry ([.ref (ad 0)]) (n := 4) (Nat.le_of_ble_eq_true rfl)
  rw [lg_entry_eq]
  generalize (lg_sl ([.ref (ad 0)]) ++ List.replicate (4 - (lg_sl ([.ref (ad 0)])).length) Slot.unset).toArray = ls at hl ⊢
  have hl : lv_has ls 4 [(0, .ref (ad 0))] := hl
  exact ke_X12_happening C0 hf hw hl
abbrev rm_X12_name : Room := { frames := 0, cells := 0, slots := 0, locals := 0 }
abbrev QM_X12_name (below : List Frame) (args : Array Value) (s : State) (D : va_G) (ad : Nat → Nat) (y : Nat → ClassId) (m_taped : Int32) (m_size : Int32) (m_to : Int32) (m_from : Int32) (m_kind : Int32) (m_number : Int32) (m_fault : Int32) (m_place : Int32) (m_name : Int64) (m_happenings : Int32) (m_newHappenings : Int32) (m_heard : Int32) (m_bounds : Int32) (a_tape : Nat → Int32) (a_happened : Nat → Int64) (a_many : Nat → Int32) (a_sort : Nat → Int32) (a_one : Nat → Int32) (a_other : Nat → Int32) (a_low : Nat → Int32) (a_high : Nat → Int32) (a_begins : Nat → Int32) (a_behind : Nat → Int32) (a_ahead : Nat → Int32) (a_most : Nat → Int32) (a_left : Nat → Int32) (a_far : Nat → Int32) (a_quarrel : Nat → Int32) (a_early : Nat → Int32) (a_earlyLast : Nat → Int32) (res : Int32 × Int32 × Int32 × (Nat → Int32)) : State → Prop := MQ below (va_Qi (fun x (_ : Unit) => x = res.1) (fun _ t => va_P D vwCl (wls ad (eR ad y res.2.1 m_taped m_size m_to m_from m_kind m_number m_fault m_place m_name m_happenings m_newHappenings m_heard res.2.2.1 m_bounds a_tape a_happened a_many a_sort a_one a_other a_low a_high a_begins res.2.2.2 a_behind a_ahead a_most a_left a_far a_quarrel a_early a_earlyLast)) t.heap) (Aw ad 19 s.heap.size)) args s 0 0 (Aw ad 19 s.heap.size)
set_option maxHeartbeats 4000000 in
set_option maxRecDepth 100000 in
theorem kw_X12_name_31 {p : Program} {l : Launch} {e : Env} {s : State} {m : MethodId} {args : Array Value} {below : List Frame} {meth : Method} {c : Code} {D : va_G} {ad : Nat → Nat} {y : Nat → ClassId} (C0 : CXT wsX12_name cX12_name RX12 5 (some .int) D (tyL y) (STR ad) p s m args meth c) {m_thrown : Int32} {m_taped : Int32} {m_size : Int32} {m_to : Int32} {m_from : Int32} {m_kind : Int32} {m_number : Int32} {m_fault : Int32} {m_place : Int32} {m_name : Int64} {m_happenings : Int32} {m_newHappenings : Int32} {m_heard : Int32} {m_bounds : Int32} {a_tape : Nat → Int32} {a_happened : Nat → Int64} {a_many : Nat → Int32} {a_sort : Nat → Int32} {a_one : Nat → Int32} {a_other : Nat → Int32} {a_low : Nat → Int32} {a_high : Nat → Int32} {a_begins : Nat → Int32} {a_out : Nat → Int32} {a_behind : Nat → Int32} {a_ahead : Nat → Int32} {a_most : Nat → Int32} {a_left : Nat → Int32} {a_far : Nat → Int32} {a_quarrel : Nat → Int32} {a_early : Nat → Int32} {a_earlyLast : Nat → Int32} {u1 : Int32} {res : Int32 × Int32 × Int32 × (Nat → Int32)} {sg : Int64 × Int32} {o : (Int64 × Int32) ⊕ (Int64 × Int32)} (hf : f_X12_name_l31 m_thrown m_happenings a_happened a_out u1 sg = some o) {H : Heap} {locs : List Loc} {ls : Array Slot} (hw : Wo D ad (Aw ad 19 s.heap.size) (eR ad y m_thrown m_taped m_size m_to m_from m_kind m_number m_fault m_place m_name m_happenings m_newHappenings m_heard sg.2 m_bounds a_tape a_happened a_many a_sort a_one a_other a_low a_high a_begins a_out a_behind a_ahead a_most a_left a_far a_quarrel a_early a_earlyLast) s.heap H locs) (hl : lv_has ls 5 [(0, .ref (ad 0)), (1, .int u1), (2, .long sg.1)]) (hcont : ∀ s2, o = .inl s2 → ∀ (H : Heap) (locs : List Loc) (ls : Array Slot), Wo D ad (Aw ad 19 s.heap.size) (eR ad y m_thrown m_taped m_size m_to m_from m_kind m_number m_fault m_place m_name m_happenings m_newHappenings m_heard s2.2 m_bounds a_tape a_happened a_many a_sort a_one a_other a_low a_high a_begins a_out a_behind a_ahead a_most a_left a_far a_quarrel a_early a_earlyLast) s.heap H locs → lv_has ls 5 [(0, .ref (ad 0)), (1, .int u1), (2, .long s2.1)] → W p l e rm_X12_name s m args below meth c H locs 0 0 (QM_X12_name below args s D ad y (m_taped) (m_size) (m_to) (m_from) (m_kind) (m_number) (m_fault) (m_place) (m_name) (m_happenings) (m_newHappenings) (m_heard) (m_bounds) (a_tape) (a_happened) (a_many) (a_sort) (a_one) (a_other) (a_low) (a_high) (a_begins) (a_behind) (a_ahead) (a_most) (a_left) (a_far) (a_quarrel) (a_early) (a_earlyLast) res) (F0 m 31 ls [])) (hexit : ∀ t, o = .inr t → ∀ (H : Heap) (locs : List Loc) (ls : Array Slot), Wo D ad (Aw ad 19 s.heap.size) (eR ad y m_thrown m_taped m_size m_to m_from m_kind m_number m_fault m_place m_name m_happenings m_newHappenings m_heard t.2 m_bounds a_tape a_happened a_many a_sort a_one a_other a_low a_high a_begins a_out a_behind a_ahead a_most a_left a_far a_quarrel a_early a_earlyLast) s.heap H locs → lv_has ls 5 [(0, .ref (ad 0)), (1, .int u1), (2, .long t.1)] → W p l e rm_X12_name s m args below meth c H locs 0 0 (QM_X12_name below args s D ad y (m_taped) (m_size) (m_to) (m_from) (m_kind) (m_number) (m_fault) (m_place) (m_name) (m_happenings) (m_newHappenings) (m_heard) (m_bounds) (a_tape) (a_happened) (a_many) (a_sort) (a_one) (a_other) (a_low) (a_high) (a_begins) (a_behind) (a_ahead) (a_most) (a_left) (a_far) (a_quarrel) (a_early) (a_earlyLast) res) (F0 m 56 ls [])) : W p l e rm_X12_name s m args below meth c H locs 0 0 (QM_X12_name below args s D ad y (m_taped) (m_size) (m_to) (m_from) (m_kind) (m_number) (m_fault) (m_place) (m_name) (m_happenings) (m_newHappenings) (m_heard) (m_bounds) (a_tape) (a_happened) (a_many) (a_sort) (a_one) (a_other) (a_low) (a_high) (a_begins) (a_behind) (a_ahead) (a_most) (a_left) (a_far) (a_quarrel) (a_early) (a_earlyLast) res) (F0 m 31 ls []) := by
  obtain ⟨hx, hb, hr, hml, hown, hts, hlocks, hK, hst⟩ := id C0
  have i_X12 : ∀ w ∈ u_ws RX12 TX12 33, w ∈ wsX12_name := by decide +kernel
  have L_200 := hts (.fieldLink RX12 200 "CaseOrderModel" "outs" "I") (by decide +kernel)
  have C_116 := hts (.constantLong RX12 116 27) (by decide +kernel)
  unfold f_X12_name_l31 at hf
  refine lv_lload_n hx hb dX12_name_31 rfl (lv_at hl 2 rfl) ?_
  refine lv_lconst (v := 0) hx hb dX12_name_32 (by decide) ?_
  refine W.lcmp hx hb dX12_name_33 ?_
  refine lv_if_le (tgt := 56) hx hb dX12_name_34 (by decide) (fun c7 => ?_) (fun c7 => ?_)
  · have hf := it_p c7 hf
    exact hexit _ (so hf).symm _ _ _ hw (lv_sub hl [0, 1, 2] rfl)
  · have hf := it_n c7 hf
    refine lv_aload_n hx hb dX12_name_37 rfl (lv_at hl 0 rfl) ?_
    refine lv_dup hx hb dX12_name_38 rfl ?_
    refine g_get hx hb hts i_X12 hown hK hw 0 eR_c0 rfl 23 (by decide) L_200 (fun _ h => h) rfl dX12_name_39 ?_
    refine lv_iconst (v := 1) hx hb dX12_name_42 (by decide) ?_
    refine lv_iadd hx hb dX12_name_43 ?_
    refine g_put (ty := .int) hx hb hts i_X12 tyX12 tyX12_ok nmX12 hown hK hw 0 eR_c0 rfl 23 (by decide) L_200 (fun _ h => h) rfl (by decide +kernel) rfl rfl (Nat.le_of_ble_eq_true rfl) dX12_name_44 (fun H locs hw => ?_)
    have hw : Wo D ad (Aw ad 19 s.heap.size) (eR ad y m_thrown m_taped m_size m_to m_from m_kind m_number m_fault m_place m_name m_happenings m_newHappenings m_heard (sg.2 + 1) m_bounds a_tape a_happened a_many a_sort a_one a_other a_low a_high a_begins a_out a_behind a_ahead a_most a_left a_far a_quarrel a_early a_earlyLast) s.heap H locs := hw
    refine lv_lload_n hx hb dX12_name_47 rfl (lv_at hl 2 rfl) ?_
    refine lv_ldc2 hx hb hown C_116 dX12_name_48 ?_
    refine lv_ldiv hx hb dX12_name_51 (by decide) ?_
    refine lv_lstore_n (lv' := [(2, .long (sg.1 / 27)), (0, .ref (ad 0)), (1, .int u1)]) hx hb dX12_name_52 rfl hl (by decide) rfl (fun ls hl => ?_)
    refine lv_goto (tgt := 31) hx hb dX12_name_53 (by decide) ?_
    exact hcont _ (so hf).symm _ _ _ hw (lv_sub hl [1, 2, 0] rfl)
set_option maxHeartbeats 4000000 in
theorem kl_X12_name_31 {p : Program} {l : Launch} {e : Env} {s : State} {m : MethodId} {args : Array Value} {below : List Frame} {meth : Method} {c : Code} {D : va_G} {ad : Nat → Nat} {y : Nat → ClassId} (C0 : CXT wsX12_name cX12_name RX12 5 (some .int) D (tyL y) (STR ad) p s m args meth c) {m_thrown : Int32} {m_taped : Int32} {m_size : Int32} {m_to : Int32} {m_from : Int32} {m_kind : Int32} {m_number : Int32} {m_fault : Int32} {m_place : Int32} {m_name : Int64} {m_happenings : Int32} {m_newHappenings : Int32} {m_heard : Int32} {m_bounds : Int32} {a_tape : Nat → Int32} {a_happened : Nat → Int64} {a_many : Nat → Int32} {a_sort : Nat → Int32} {a_one : Nat → Int32} {a_other : Nat → Int32} {a_low : Nat → Int32} {a_high : Nat → Int32} {a_begins : Nat → Int32} {a_out : Nat → Int32} {a_behind : Nat → Int32} {a_ahead : Nat → Int32} {a_most : Nat → Int32} {a_left : Nat → Int32} {a_far : Nat → Int32} {a_quarrel : Nat → Int32} {a_early : Nat → Int32} {a_earlyLast : Nat → Int32} {u1 : Int32} {res : Int32 × Int32 × Int32 × (Nat → Int32)} : ∀ (n : Nat) (sg : Int64 × Int32) (q : Int64 × Int32), lp (f_X12_name_l31 m_thrown m_happenings a_happened a_out u1) n sg = some q → ∀ (H : Heap) (locs : List Loc) (ls : Array Slot), Wo D ad (Aw ad 19 s.heap.size) (eR ad y m_thrown m_taped m_size m_to m_from m_kind m_number m_fault m_place m_name m_happenings m_newHappenings m_heard sg.2 m_bounds a_tape a_happened a_many a_sort a_one a_other a_low a_high a_begins a_out a_behind a_ahead a_most a_left a_far a_quarrel a_early a_earlyLast) s.heap H locs → lv_has ls 5 [(0, .ref (ad 0)), (1, .int u1), (2, .long sg.1)] → (∀ (H : Heap) (locs : List Loc) (ls : Array Slot), Wo D ad (Aw ad 19 s.heap.size) (eR ad y m_thrown m_taped m_size m_to m_from m_kind m_number m_fault m_place m_name m_happenings m_newHappenings m_heard q.2 m_bounds a_tape a_happened a_many a_sort a_one a_other a_low a_high a_begins a_out a_behind a_ahead a_most a_left a_far a_quarrel a_early a_earlyLast) s.heap H locs → lv_has ls 5 [(0, .ref (ad 0)), (1, .int u1), (2, .long q.1)] → W p l e rm_X12_name s m args below meth c H locs 0 0 (QM_X12_name below args s D ad y (m_taped) (m_size) (m_to) (m_from) (m_kind) (m_number) (m_fault) (m_place) (m_name) (m_happenings) (m_newHappenings) (m_heard) (m_bounds) (a_tape) (a_happened) (a_many) (a_sort) (a_one) (a_other) (a_low) (a_high) (a_begins) (a_behind) (a_ahead) (a_most) (a_left) (a_far) (a_quarrel) (a_early) (a_earlyLast) res) (F0 m 56 ls [])) → W p l e rm_X12_name s m args below meth c H locs 0 0 (QM_X12_name below args s D ad y (m_taped) (m_size) (m_to) (m_from) (m_kind) (m_number) (m_fault) (m_place) (m_name) (m_happenings) (m_newHappenings) (m_heard) (m_bounds) (a_tape) (a_happened) (a_many) (a_sort) (a_one) (a_other) (a_low) (a_high) (a_begins) (a_behind) (a_ahead) (a_most) (a_left) (a_far) (a_quarrel) (a_early) (a_earlyLast) res) (F0 m 31 ls []) := by
  intro n
  induction n with
  | zero => intro sg q hf; exact absurd hf lp_zero
  | succ n ih =>
    intro sg q hf H locs ls hw hl hexit
    rcases lp_succ hf with ⟨sg2, h1, h2⟩ | h1
    · exact kw_X12_name_31 C0 h1 hw hl (fun s2 e2 H locs ls hw hl => by cases e2; exact ih _ q h2 H locs ls hw hl hexit) (fun t e2 => by cases e2)
    · exact kw_X12_name_31 C0 h1 hw hl (fun s2 e2 => by cases e2) (fun t e2 => by cases e2; exact hexit)
set_option maxHeartbeats 4000000 in
set_option maxRecDepth 100000 in
theorem kw_X12_name_71 {p : Program} {l : Launch} {e : Env} {s : State} {m : MethodId} {args : Array Value} {below : List Frame} {meth : Method} {c : Code} {D : va_G} {ad : Nat → Nat} {y : Nat → ClassId} (C0 : CXT wsX12_name cX12_name RX12 5 (some .int) D (tyL y) (STR ad) p s m args meth c) {m_thrown : Int32} {m_taped : Int32} {m_size : Int32} {m_to : Int32} {m_from : Int32} {m_kind : Int32} {m_number : Int32} {m_fault : Int32} {m_place : Int32} {m_name : Int64} {m_happenings : Int32} {m_newHappenings : Int32} {m_heard : Int32} {m_outs : Int32} {m_bounds : Int32} {a_tape : Nat → Int32} {a_happened : Nat → Int64} {a_many : Nat → Int32} {a_sort : Nat → Int32} {a_one : Nat → Int32} {a_other : Nat → Int32} {a_low : Nat → Int32} {a_high : Nat → Int32} {a_begins : Nat → Int32} {a_behind : Nat → Int32} {a_ahead : Nat → Int32} {a_most : Nat → Int32} {a_left : Nat → Int32} {a_far : Nat → Int32} {a_quarrel : Nat → Int32} {a_early : Nat → Int32} {a_earlyLast : Nat → Int32}  {res : Int32 × Int32 × Int32 × (Nat → Int32)} {sg : Int64 × Int32 × (Nat → Int32)} {o : (Int64 × Int32 × (Nat → Int32)) ⊕ (Int64 × Int32 × (Nat → Int32))} (hf : f_X12_name_l71 m_thrown m_happenings m_outs a_happened sg = some o) {H : Heap} {locs : List Loc} {ls : Array Slot} (hw : Wo D ad (Aw ad 19 s.heap.size) (eR ad y m_thrown m_taped m_size m_to m_from m_kind m_number m_fault m_place m_name m_happenings m_newHappenings m_heard m_outs m_bounds a_tape a_happened a_many a_sort a_one a_other a_low a_high a_begins sg.2.2 a_behind a_ahead a_most a_left a_far a_quarrel a_early a_earlyLast) s.heap H locs) (hl : lv_has ls 5 [(0, .ref (ad 0)), (2, .long sg.1), (4, .int sg.2.1)]) (hcont : ∀ s2, o = .inl s2 → ∀ (H : Heap) (locs : List Loc) (ls : Array Slot), Wo D ad (Aw ad 19 s.heap.size) (eR ad y m_thrown m_taped m_size m_to m_from m_kind m_number m_fault m_place m_name m_happenings m_newHappenings m_heard m_outs m_bounds a_tape a_happened a_many a_sort a_one a_other a_low a_high a_begins s2.2.2 a_behind a_ahead a_most a_left a_far a_quarrel a_early a_earlyLast) s.heap H locs → lv_has ls 5 [(0, .ref (ad 0)), (2, .long s2.1), (4, .int s2.2.1)] → W p l e rm_X12_name s m args below meth c H locs 0 0 (QM_X12_name below args s D ad y (m_taped) (m_size) (m_to) (m_from) (m_kind) (m_number) (m_fault) (m_place) (m_name) (m_happenings) (m_newHappenings) (m_heard) (m_bounds) (a_tape) (a_happened) (a_many) (a_sort) (a_one) (a_other) (a_low) (a_high) (a_begins) (a_behind) (a_ahead) (a_most) (a_left) (a_far) (a_quarrel) (a_early) (a_earlyLast) res) (F0 m 71 ls [])) (hexit : ∀ t, o = .inr t → ∀ (H : Heap) (locs : List Loc) (ls : Array Slot), Wo D ad (Aw ad 19 s.heap.size) (eR ad y m_thrown m_taped m_size m_to m_from m_kind m_number m_fault m_place m_name m_happenings m_newHappenings m_heard m_outs m_bounds a_tape a_happened a_many a_sort a_one a_other a_low a_high a_begins t.2.2 a_behind a_ahead a_most a_left a_far a_quarrel a_early a_earlyLast) s.heap H locs → lv_has ls 5 [(0, .ref (ad 0)), (2, .long t.1), (4, .int t.2.1)] → W p l e rm_X12_name s m args below meth c H locs 0 0 (QM_X12_name below args s D ad y (m_taped) (m_size) (m_to) (m_from) (m_kind) (m_number) (m_fault) (m_place) (m_name) (m_happenings) (m_newHappenings) (m_heard) (m_bounds) (a_tape) (a_happened) (a_many) (a_sort) (a_one) (a_other) (a_low) (a_high) (a_begins) (a_behind) (a_ahead) (a_most) (a_left) (a_far) (a_quarrel) (a_early) (a_earlyLast) res) (F0 m 104 ls [])) : W p l e rm_X12_name s m args below meth c H locs 0 0 (QM_X12_name below args s D ad y (m_taped) (m_size) (m_to) (m_from) (m_kind) (m_number) (m_fault) (m_place) (m_name) (m_happenings) (m_newHappenings) (m_heard) (m_bounds) (a_tape) (a_happened) (a_many) (a_sort) (a_one) (a_other) (a_low) (a_high) (a_begins) (a_behind) (a_ahead) (a_most) (a_left) (a_far) (a_quarrel) (a_early) (a_earlyLast) res) (F0 m 71 ls []) := by
  obtain ⟨hx, hb, hr, hml, hown, hts, hlocks, hK, hst⟩ := id C0
  have i_X12 : ∀ w ∈ u_ws RX12 TX12 33, w ∈ wsX12_name := by decide +kernel
  have L_42 := hts (.fieldLink RX12 42 "CaseOrderModel" "out" "[I") (by decide +kernel)
  have C_116 := hts (.constantLong RX12 116 27) (by decide +kernel)
  unfold f_X12_name_l71 at hf
  refine lv_iload hx hb dX12_name_71 (lv_at hl 2 rfl) ?_
  refine lv_if_lt (tgt := 104) hx hb dX12_name_73 (by decide) (fun c10 => ?_) (fun c10 => ?_)
  · have hf := it_p c10 hf
    exact hexit _ (so hf).symm _ _ _ hw (lv_sub hl [0, 1, 2] rfl)
  · have hf := it_n c10 hf
    refine lv_aload_n hx hb dX12_name_76 rfl (lv_at hl 0 rfl) ?_
    refine g_get hx hb hts i_X12 hown hK hw 0 eR_c0 rfl 22 (by decide) L_42 (fun _ h => h) rfl dX12_name_77 ?_
    refine lv_iload hx hb dX12_name_80 (lv_at hl 2 rfl) ?_
    refine lv_lload_n hx hb dX12_name_82 rfl (lv_at hl 1 rfl) ?_
    refine lv_ldc2 hx hb hown C_116 dX12_name_83 ?_
    refine lv_lrem hx hb dX12_name_86 (by decide) ?_
    refine lv_l2i hx hb dX12_name_87 rfl ?_
    refine lv_bipush (v := 96) hx hb dX12_name_88 (by decide) ?_
    refine lv_iadd hx hb dX12_name_90 ?_
    obtain ⟨g11, hf⟩ := gIn_some hf
    refine g_iast hx hb hK hw 10 1 eR_c10 rfl g11 dX12_name_91 (fun H locs hw => ?_)
    have hw : Wo D ad (Aw ad 19 s.heap.size) (eR ad y m_thrown m_taped m_size m_to m_from m_kind m_number m_fault m_place m_name m_happenings m_newHappenings m_heard m_outs m_bounds a_tape a_happened a_many a_sort a_one a_other a_low a_high a_begins (upd sg.2.2 (Int32.toNatClampNeg sg.2.1) (((sg.1 - sg.1 / 27 * 27).toInt32) + 96)) a_behind a_ahead a_most a_left a_far a_quarrel a_early a_earlyLast) s.heap H locs := hw
    refine lv_lload_n hx hb dX12_name_92 rfl (lv_at hl 1 rfl) ?_
    refine lv_ldc2 hx hb hown C_116 dX12_name_93 ?_
    refine lv_ldiv hx hb dX12_name_96 (by decide) ?_
    refine lv_lstore_n (lv' := [(2, .long (sg.1 / 27)), (0, .ref (ad 0)), (4, .int sg.2.1)]) hx hb dX12_name_97 rfl hl (by decide) rfl (fun ls hl => ?_)
    refine lv_iinc (v := sg.2.1 + (-1)) (lv' := [(4, .int (sg.2.1 + (-1))), (2, .long (sg.1 / 27)), (0, .ref (ad 0))]) hx hb dX12_name_98 hl (k := 2) rfl rfl (by decide) rfl (fun ls hl => ?_)
    refine lv_goto (tgt := 71) hx hb dX12_name_101 (by decide) ?_
    exact hcont _ (so hf).symm _ _ _ hw (lv_sub hl [2, 1, 0] rfl)
set_option maxHeartbeats 4000000 in
theorem kl_X12_name_71 {p : Program} {l : Launch} {e : Env} {s : State} {m : MethodId} {args : Array Value} {below : List Frame} {meth : Method} {c : Code} {D : va_G} {ad : Nat → Nat} {y : Nat → ClassId} (C0 : CXT wsX12_name cX12_name RX12 5 (some .int) D (tyL y) (STR ad) p s m args meth c) {m_thrown : Int32} {m_taped : Int32} {m_size : Int32} {m_to : Int32} {m_from : Int32} {m_kind : Int32} {m_number : Int32} {m_fault : Int32} {m_place : Int32} {m_name : Int64} {m_happenings : Int32} {m_newHappenings : Int32} {m_heard : Int32} {m_outs : Int32} {m_bounds : Int32} {a_tape : Nat → Int32} {a_happened : Nat → Int64} {a_many : Nat → Int32} {a_sort : Nat → Int32} {a_one : Nat → Int32} {a_other : Nat → Int32} {a_low : Nat → Int32} {a_high : Nat → Int32} {a_begins : Nat → Int32} {a_behind : Nat → Int32} {a_ahead : Nat → Int32} {a_most : Nat → Int32} {a_left : Nat → Int32} {a_far : Nat → Int32} {a_quarrel : Nat → Int32} {a_early : Nat → Int32} {a_earlyLast : Nat → Int32}  {res : Int32 × Int32 × Int32 × (Nat → Int32)} : ∀ (n : Nat) (sg : Int64 × Int32 × (Nat → Int32)) (q : Int64 × Int32 × (Nat → Int32)), lp (f_X12_name_l71 m_thrown m_happenings m_outs a_happened) n sg = some q → ∀ (H : Heap) (locs : List Loc) (ls : Array Slot), Wo D ad (Aw ad 19 s.heap.size) (eR ad y m_thrown m_taped m_size m_to m_from m_kind m_number m_fault m_place m_name m_happenings m_newHappenings m_heard m_outs m_bounds a_tape a_happened a_many a_sort a_one a_other a_low a_high a_begins sg.2.2 a_behind a_ahead a_most a_left a_far a_quarrel a_early a_earlyLast) s.heap H locs → lv_has ls 5 [(0, .ref (ad 0)), (2, .long sg.1), (4, .int sg.2.1)] → (∀ (H : Heap) (locs : List Loc) (ls : Array Slot), Wo D ad (Aw ad 19 s.heap.size) (eR ad y m_thrown m_taped m_size m_to m_from m_kind m_number m_fault m_place m_name m_happenings m_newHappenings m_heard m_outs m_bounds a_tape a_happened a_many a_sort a_one a_other a_low a_high a_begins q.2.2 a_behind a_ahead a_most a_left a_far a_quarrel a_early a_earlyLast) s.heap H locs → lv_has ls 5 [(0, .ref (ad 0)), (2, .long q.1), (4, .int q.2.1)] → W p l e rm_X12_name s m args below meth c H locs 0 0 (QM_X12_name below args s D ad y (m_taped) (m_size) (m_to) (m_from) (m_kind) (m_number) (m_fault) (m_place) (m_name) (m_happenings) (m_newHappenings) (m_heard) (m_bounds) (a_tape) (a_happened) (a_many) (a_sort) (a_one) (a_other) (a_low) (a_high) (a_begins) (a_behind) (a_ahead) (a_most) (a_left) (a_far) (a_quarrel) (a_early) (a_earlyLast) res) (F0 m 104 ls [])) → W p l e rm_X12_name s m args below meth c H locs 0 0 (QM_X12_name below args s D ad y (m_taped) (m_size) (m_to) (m_from) (m_kind) (m_number) (m_fault) (m_place) (m_name) (m_happenings) (m_newHappenings) (m_heard) (m_bounds) (a_tape) (a_happened) (a_many) (a_sort) (a_one) (a_other) (a_low) (a_high) (a_begins) (a_behind) (a_ahead) (a_most) (a_left) (a_far) (a_quarrel) (a_early) (a_earlyLast) res) (F0 m 71 ls []) := by
  intro n
  induction n with
  | zero => intro sg q hf; exact absurd hf lp_zero
  | succ n ih =>
    intro sg q hf H locs ls hw hl hexit
    rcases lp_succ hf with ⟨sg2, h1, h2⟩ | h1
    · exact kw_X12_name_71 C0 h1 hw hl (fun s2 e2 H locs ls hw hl => by cases e2; exact ih _ q h2 H locs ls hw hl hexit) (fun t e2 => by cases e2)
    · exact kw_X12_name_71 C0 h1 hw hl (fun s2 e2 => by cases e2) (fun t e2 => by cases e2; exact hexit)
set_option maxHeartbeats 4000000 in
set_option maxRecDepth 100000 in
theorem ke_X12_name {p : Program} {l : Launch} {e : Env} {s : State} {m : MethodId} {args : Array Value} {below : List Frame} {meth : Method} {c : Code} {D : va_G} {ad : Nat → Nat} {y : Nat → ClassId} (C0 : CXT wsX12_name cX12_name RX12 5 (some .int) D (tyL y) (STR ad) p s m args meth c) {m_thrown : Int32} {m_taped : Int32} {m_size : Int32} {m_to : Int32} {m_from : Int32} {m_kind : Int32} {m_number : Int32} {m_fault : Int32} {m_place : Int32} {m_name : Int64} {m_happenings : Int32} {m_newHappenings : Int32} {m_heard : Int32} {m_outs : Int32} {m_bounds : Int32} {a_tape : Nat → Int32} {a_happened : Nat → Int64} {a_many : Nat → Int32} {a_sort : Nat → Int32} {a_one : Nat → Int32} {a_other : Nat → Int32} {a_low : Nat → Int32} {a_high : Nat → Int32} {a_begins : Nat → Int32} {a_out : Nat → Int32} {a_behind : Nat → Int32} {a_ahead : Nat → Int32} {a_most : Nat → Int32} {a_left : Nat → Int32} {a_far : Nat → Int32} {a_quarrel : Nat → Int32} {a_early : Nat → Int32} {a_earlyLast : Nat → Int32} {p1 : Int32} {res : Int32 × Int32 × Int32 × (Nat → Int32)} (hf : f_X12_name m_thrown m_happenings m_outs a_happened a_out p1 = some res) {H : Heap} {locs : List Loc} {ls : Array Slot} (hw : Wo D ad (Aw ad 19 s.heap.size) (eR ad y m_thrown m_taped m_size m_to m_from m_kind m_number m_fault m_place m_name m_happenings m_newHappenings m_heard m_outs m_bounds a_tape a_happened a_many a_sort a_one a_other a_low a_high a_begins a_out a_behind a_ahead a_most a_left a_far a_quarrel a_early a_earlyLast) s.heap H locs) (hl : lv_has ls 5 [(0, .ref (ad 0)), (1, .int p1)]) : W p l e rm_X12_name s m args below meth c H locs 0 0 (QM_X12_name below args s D ad y (m_taped) (m_size) (m_to) (m_from) (m_kind) (m_number) (m_fault) (m_place) (m_name) (m_happenings) (m_newHappenings) (m_heard) (m_bounds) (a_tape) (a_happened) (a_many) (a_sort) (a_one) (a_other) (a_low) (a_high) (a_begins) (a_behind) (a_ahead) (a_most) (a_left) (a_far) (a_quarrel) (a_early) (a_earlyLast) res) (F0 m 0 ls []) := by
  obtain ⟨hx, hb, hr, hml, hown, hts, hlocks, hK, hst⟩ := id C0
  have i_X12 : ∀ w ∈ u_ws RX12 TX12 33, w ∈ wsX12_name := by decide +kernel
  have L_70 := hts (.fieldLink RX12 70 "CaseOrderModel" "thrown" "I") (by decide +kernel)
  have L_181 := hts (.fieldLink RX12 181 "CaseOrderModel" "happenings" "I") (by decide +kernel)
  have L_200 := hts (.fieldLink RX12 200 "CaseOrderModel" "outs" "I") (by decide +kernel)
  have L_13 := hts (.fieldLink RX12 13 "CaseOrderModel" "happened" "[J") (by decide +kernel)
  unfold f_X12_name at hf
  refine lv_aload_n hx hb dX12_name_0 rfl (lv_at hl 0 rfl) ?_
  refine lv_iconst (v := 0) hx hb dX12_name_1 (by decide) ?_
  refine g_put (ty := .int) hx hb hts i_X12 tyX12 tyX12_ok nmX12 hown hK hw 0 eR_c0 rfl 0 (by decide) L_70 (fun _ h => h) rfl (by decide +kernel) rfl rfl (Nat.le_of_ble_eq_true rfl) dX12_name_2 (fun H locs hw => ?_)
  have hw : Wo D ad (Aw ad 19 s.heap.size) (eR ad y 0 m_taped m_size m_to m_from m_kind m_number m_fault m_place m_name m_happenings m_newHappenings m_heard m_outs m_bounds a_tape a_happened a_many a_sort a_one a_other a_low a_high a_begins a_out a_behind a_ahead a_most a_left a_far a_quarrel a_early a_earlyLast) s.heap H locs := hw
  refine lv_iload_n hx hb dX12_name_5 rfl (lv_at hl 1 rfl) ?_
  refine lv_if_lt (tgt := 17) hx hb dX12_name_6 (by decide) (fun c4 => ?_) (fun c4 => ?_)
  · have hf := it_p c4 hf
    refine lv_iconst (v := (-1)) hx hb dX12_name_17 (by decide) ?_
    obtain rfl := so hf
    exact W.iret (v := (-1)) hx hb hr (fun t ht _ => g_end hw t ht) hw.2.2.2.2 dX12_name_18
  · have hf := it_n c4 hf
    refine lv_iload_n hx hb dX12_name_9 rfl (lv_at hl 1 rfl) ?_
    refine lv_aload_n hx hb dX12_name_10 rfl (lv_at hl 0 rfl) ?_
    refine g_get hx hb hts i_X12 hown hK hw 0 eR_c0 rfl 12 (by decide) L_181 (fun _ h => h) rfl dX12_name_11 ?_
    refine lv_icmp_lt (tgt := 19) hx hb dX12_name_14 (by decide) (fun c5 => ?_) (fun c5 => ?_)
    · have hf := it_p c5 hf
      refine lv_aload_n hx hb dX12_name_19 rfl (lv_at hl 0 rfl) ?_
      refine lv_iconst (v := 0) hx hb dX12_name_20 (by decide) ?_
      refine g_put (ty := .int) hx hb hts i_X12 tyX12 tyX12_ok nmX12 hown hK hw 0 eR_c0 rfl 23 (by decide) L_200 (fun _ h => h) rfl (by decide +kernel) rfl rfl (Nat.le_of_ble_eq_true rfl) dX12_name_21 (fun H locs hw => ?_)
      have hw : Wo D ad (Aw ad 19 s.heap.size) (eR ad y 0 m_taped m_size m_to m_from m_kind m_number m_fault m_place m_name m_happenings m_newHappenings m_heard 0 m_bounds a_tape a_happened a_many a_sort a_one a_other a_low a_high a_begins a_out a_behind a_ahead a_most a_left a_far a_quarrel a_early a_earlyLast) s.heap H locs := hw
      refine lv_aload_n hx hb dX12_name_24 rfl (lv_at hl 0 rfl) ?_
      refine g_get hx hb hts i_X12 hown hK hw 0 eR_c0 rfl 11 (by decide) L_13 (fun _ h => h) rfl dX12_name_25 ?_
      refine lv_iload_n hx hb dX12_name_28 rfl (lv_at hl 1 rfl) ?_
      obtain ⟨g6, hf⟩ := gIn_some hf
      refine g_lald hx hb hK hw 2 3 eR_c2 rfl g6 dX12_name_29 ?_
      refine lv_lstore_n (lv' := [(2, .long (a_happened (Int32.toNatClampNeg p1))), (0, .ref (ad 0)), (1, .int p1)]) hx hb dX12_name_30 rfl hl (by decide) rfl (fun ls hl => ?_)
      obtain ⟨q8, hq8, hf⟩ := bd hf
      refine kl_X12_name_31 C0 gFU _ _ hq8 _ _ _ hw (lv_sub hl [1, 2, 0] rfl) (fun H locs ls hw hl => ?_)
      have hw : Wo D ad (Aw ad 19 s.heap.size) (eR ad y 0 m_taped m_size m_to m_from m_kind m_number m_fault m_place m_name m_happenings m_newHappenings m_heard q8.2 m_bounds a_tape a_happened a_many a_sort a_one a_other a_low a_high a_begins a_out a_behind a_ahead a_most a_left a_far a_quarrel a_early a_earlyLast) s.heap H locs := hw
      have hl : lv_has ls 5 [(0, .ref (ad 0)), (1, .int p1), (2, .long q8.1)] := hl
      refine lv_aload_n hx hb dX12_name_56 rfl (lv_at hl 0 rfl) ?_
      refine g_get hx hb hts i_X12 hown hK hw 0 eR_c0 rfl 11 (by decide) L_13 (fun _ h => h) rfl dX12_name_57 ?_
      refine lv_iload_n hx hb dX12_name_60 rfl (lv_at hl 1 rfl) ?_
      obtain ⟨g9, hf⟩ := gIn_some hf
      refine g_lald hx hb hK hw 2 3 eR_c2 rfl g9 dX12_name_61 ?_
      refine lv_lstore_n (lv' := [(2, .long (a_happened (Int32.toNatClampNeg p1))), (0, .ref (ad 0)), (1, .int p1)]) hx hb dX12_name_62 rfl hl (by decide) rfl (fun ls hl => ?_)
      refine lv_aload_n hx hb dX12_name_63 rfl (lv_at hl 1 rfl) ?_
      refine g_get hx hb hts i_X12 hown hK hw 0 eR_c0 rfl 23 (by decide) L_200 (fun _ h => h) rfl dX12_name_64 ?_
      refine lv_iconst (v := 1) hx hb dX12_name_67 (by decide) ?_
      refine lv_isub hx hb dX12_name_68 ?_
      refine lv_istore (lv' := [(4, .int (q8.2 - 1)), (2, .long (a_happened (Int32.toNatClampNeg p1))), (0, .ref (ad 0)), (1, .int p1)]) hx hb dX12_name_69 hl (by decide) rfl (fun ls hl => ?_)
      obtain ⟨q12, hq12, hf⟩ := bd hf
      refine kl_X12_name_71 C0 gFU _ _ hq12 _ _ _ hw (lv_sub hl [2, 1, 0] rfl) (fun H locs ls hw hl => ?_)
      have hw : Wo D ad (Aw ad 19 s.heap.size) (eR ad y 0 m_taped m_size m_to m_from m_kind m_number m_fault m_place m_name m_happenings m_newHappenings m_heard q8.2 m_bounds a_tape a_happened a_many a_sort a_one a_other a_low a_high a_begins q12.2.2 a_behind a_ahead a_most a_left a_far a_quarrel a_early a_earlyLast) s.heap H locs := hw
      have hl : lv_has ls 5 [(0, .ref (ad 0)), (2, .long q12.1), (4, .int q12.2.1)] := hl
      refine lv_aload_n hx hb dX12_name_104 rfl (lv_at hl 0 rfl) ?_
      refine g_get hx hb hts i_X12 hown hK hw 0 eR_c0 rfl 23 (by decide) L_200 (fun _ h => h) rfl dX12_name_105 ?_
      obtain rfl := so hf
      exact W.iret (v := q8.2) hx hb hr (fun t ht _ => g_end hw t ht) hw.2.2.2.2 dX12_name_108
    · have hf := it_n c5 hf
      refine lv_iconst (v := (-1)) hx hb dX12_name_17 (by decide) ?_
      obtain rfl := so hf
      exact W.iret (v := (-1)) hx hb hr (fun t ht _ => g_end hw t ht) hw.2.2.2.2 dX12_name_18
set_option maxHeartbeats 4000000 in
theorem k_X12_name {l : Launch} {D : va_G} {ad : Nat → Nat} {y : Nat → ClassId} {m_thrown : Int32} {m_taped : Int32} {m_size : Int32} {m_to : Int32} {m_from : Int32} {m_kind : Int32} {m_number : Int32} {m_fault : Int32} {m_place : Int32} {m_name : Int64} {m_happenings : Int32} {m_newHappenings : Int32} {m_heard : Int32} {m_outs : Int32} {m_bounds : Int32} {a_tape : Nat → Int32} {a_happened : Nat → Int64} {a_many : Nat → Int32} {a_sort : Nat → Int32} {a_one : Nat → Int32} {a_other : Nat → Int32} {a_low : Nat → Int32} {a_high : Nat → Int32} {a_begins : Nat → Int32} {a_out : Nat → Int32} {a_behind : Nat → Int32} {a_ahead : Nat → Int32} {a_most : Nat → Int32} {a_left : Nat → Int32} {a_far : Nat → Int32} {a_quarrel : Nat → Int32} {a_early : Nat → Int32} {a_earlyLast : Nat → Int32} {p1 : Int32} {res : Int32 × Int32 × Int32 × (Nat → Int32)} (hf : f_X12_name m_thrown m_happenings m_outs a_happened a_out p1 = some res) : CTi l yX12_name wsX12_name rm_X12_name D ad 19 (tyL y) (STR ad) (eR ad y m_thrown m_taped m_size m_to m_from m_kind m_number m_fault m_place m_name m_happenings m_newHappenings m_heard m_outs m_bounds a_tape a_happened a_many a_sort a_one a_other a_low a_high a_begins a_out a_behind a_ahead a_most a_left a_far a_quarrel a_early a_earlyLast) (eR ad y res.2.1 m_taped m_size m_to m_from m_kind m_number m_fault m_place m_name m_happenings m_newHappenings m_heard res.2.2.1 m_bounds a_tape a_happened a_many a_sort a_one a_other a_low a_high a_begins res.2.2.2 a_behind a_ahead a_most a_left a_far a_quarrel a_early a_earlyLast) [.ref (ad 0), .int p1] res.1 := by
  intro sz
  refine Met.ofW (cc := cX12_name) (maxL := 5) (ret := (some .int)) (by decide) rfl ?_
  intro p e s m args below meth c s₁ B hml hv
  obtain ⟨rfl, hsz, hP, hK, hD0, hst⟩ := hv
  subst hsz
  have C0 : CXT wsX12_name cX12_name RX12 5 (some .int) D (tyL y) (STR ad) p s m ([.ref (ad 0), .int p1] : List Value).toArray meth c := ⟨B.exec, B.bytes, B.returns, hml, findClass_of_methodNamed B.named, atoms_spec (ws := wsX12_name) B.pre, B.notSynchronized, hK, hst⟩
  have hw := g_start (n := 19) rfl hP hD0
  have hl := lv_entry ([.ref (ad 0), .int p1]) (n := 5) (Nat.le_of_ble_eq_true rfl)
  rw [lg_entry_eq]
  generalize (lg_sl ([.ref (ad 0), .int p1]) ++ List.replicate (5 - (lg_sl ([.ref (ad 0), .int p1])).length) Slot.unset).toArray = ls at hl ⊢
  have hl : lv_has ls 5 [(0, .ref (ad 0)), (1, .int p1)] := hl
  exact ke_X12_name C0 hf hw hl
