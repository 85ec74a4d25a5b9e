abbrev rm_X5_readNumber : Room := { frames := 1, cells := 0, slots := 0, locals := 21 }
abbrev QM_X5_readNumber (below : List Frame) (args : Array Value) (s : State) (D : va_G) (ad : Nat → Nat) (y : Nat → ClassId) (adE : Nat → Nat) (m_out : Int32) (t_draft : Nat) (m_tlen : Int32) (a_bytes : Nat → Int32) (m_nsize : Int32) (m_drafted : Int32) (a_letters : Nat → Int32) (a_nlen : Nat → Int32) (t_texts : Nat → Nat) (m_toks : Int32) (t_types : Nat → Nat) (a_starts : Nat → Int32) (a_tlens : Nat → Int32) (m_heard : Int32) (m_qsize : Int32) (m_wayKnown : Int32) (m_way : Int32) (m_qKnown : Int32) (m_lineKnown : Int32) (m_nodes : Int32) (m_lsize : Int32) (a_tails : Nat → Int32) (a_heads : Nat → Int32) (a_gaps : Nat → Int32) (a_least : Nat → Int32) (m_csize : Int32) (a_ctails : Nat → Int32) (a_cheads : Nat → Int32) (a_cgaps : Nat → Int32) (a_leftOut : Nat → Int32) (a_qrow : Nat → Int32) (a_line : Nat → Int32) (a_tsize : Nat → Int32) (t_word : Nat → Nat) (a_own : Nat → Int32) (a_oth : Nat → Int32) (a_fst : Nat → Int32) (a_snd : Nat → Int32) (a_plc : Nat → Int32) (res : Int32 × Int32 × Int32 × Int32) : State → Prop := MQ below (va_Qi (fun x (_ : Unit) => x = res.1) (fun _ t => va_P D vwCl (wls ad (eC ad adE y m_out t_draft m_tlen a_bytes m_nsize m_drafted a_letters a_nlen t_texts res.2.1 res.2.2.1 res.2.2.2 m_toks t_types a_starts a_tlens m_heard m_qsize m_wayKnown m_way m_qKnown m_lineKnown m_nodes m_lsize a_tails a_heads a_gaps a_least m_csize a_ctails a_cheads a_cgaps a_leftOut a_qrow a_line a_tsize t_word a_own a_oth a_fst a_snd a_plc)) t.heap) (Aw ad 124 s.heap.size)) args s 0 0 (Aw ad 124 s.heap.size)
set_option maxHeartbeats 4000000 in
set_option maxRecDepth 100000 in
theorem kw_X5_readNumber_22 {p : Program} {l : Launch} {e : Env} {s : State} {m : MethodId} {args : Array Value} {below : List Frame} {meth : Method} {c : Code} {D : va_G} {ad : Nat → Nat} {y : Nat → ClassId} {adE adK adV : Nat → Nat} {tkA swA : Nat} (C0 : CXT wsX5_readNumber cX5_readNumber RX5 4 (some .int) D (tyL y) (STC ad adE adK adV tkA swA) p s m args meth c) {m_out : Int32} {t_draft : Nat} {m_tlen : Int32} {a_bytes : Nat → Int32} {m_nsize : Int32} {m_drafted : Int32} {a_letters : Nat → Int32} {a_nlen : Nat → Int32} {t_texts : Nat → Nat} {m_here : Int32} {m_fkind : Int32} {m_fplace : Int32} {m_toks : Int32} {t_types : Nat → Nat} {a_starts : Nat → Int32} {a_tlens : Nat → Int32} {m_heard : Int32} {m_qsize : Int32} {m_wayKnown : Int32} {m_way : Int32} {m_qKnown : Int32} {m_lineKnown : Int32} {m_nodes : Int32} {m_lsize : Int32} {a_tails : Nat → Int32} {a_heads : Nat → Int32} {a_gaps : Nat → Int32} {a_least : Nat → Int32} {m_csize : Int32} {a_ctails : Nat → Int32} {a_cheads : Nat → Int32} {a_cgaps : Nat → Int32} {a_leftOut : Nat → Int32} {a_qrow : Nat → Int32} {a_line : Nat → Int32} {a_tsize : Nat → Int32} {t_word : Nat → Nat} {a_own : Nat → Int32} {a_oth : Nat → Int32} {a_fst : Nat → Int32} {a_snd : Nat → Int32} {a_plc : Nat → Int32} {u1 : Int32} {res : Int32 × Int32 × Int32 × Int32} {sg : Int32 × Int32} {o : (Int32 × Int32) ⊕ (Int32 × Int32)} (hf : f_X5_readNumber_l22 a_bytes m_here m_fkind m_fplace t_types a_starts a_tlens u1 sg = some o) {H : Heap} {locs : List Loc} {ls : Array Slot} (hw : Wo D ad (Aw ad 124 s.heap.size) (eC ad adE y m_out t_draft m_tlen a_bytes m_nsize m_drafted a_letters a_nlen t_texts m_here m_fkind m_fplace m_toks t_types a_starts a_tlens m_heard m_qsize m_wayKnown m_way m_qKnown m_lineKnown m_nodes m_lsize a_tails a_heads a_gaps a_least m_csize a_ctails a_cheads a_cgaps a_leftOut a_qrow a_line a_tsize t_word a_own a_oth a_fst a_snd a_plc) s.heap H locs) (hl : lv_has ls 4 [(0, .ref (ad 7)), (1, .int u1), (2, .int sg.1), (3, .int sg.2)]) (hcont : ∀ s2, o = .inl s2 → ∀ (H : Heap) (locs : List Loc) (ls : Array Slot), Wo D ad (Aw ad 124 s.heap.size) (eC ad adE y m_out t_draft m_tlen a_bytes m_nsize m_drafted a_letters a_nlen t_texts m_here m_fkind m_fplace m_toks t_types a_starts a_tlens m_heard m_qsize m_wayKnown m_way m_qKnown m_lineKnown m_nodes m_lsize a_tails a_heads a_gaps a_least m_csize a_ctails a_cheads a_cgaps a_leftOut a_qrow a_line a_tsize t_word a_own a_oth a_fst a_snd a_plc) s.heap H locs → lv_has ls 4 [(0, .ref (ad 7)), (1, .int u1), (2, .int s2.1), (3, .int s2.2)] → W p l e rm_X5_readNumber s m args below meth c H locs 0 0 (QM_X5_readNumber below args s D ad y adE (m_out) (t_draft) (m_tlen) (a_bytes) (m_nsize) (m_drafted) (a_letters) (a_nlen) (t_texts) (m_toks) (t_types) (a_starts) (a_tlens) (m_heard) (m_qsize) (m_wayKnown) (m_way) (m_qKnown) (m_lineKnown) (m_nodes) (m_lsize) (a_tails) (a_heads) (a_gaps) (a_least) (m_csize) (a_ctails) (a_cheads) (a_cgaps) (a_leftOut) (a_qrow) (a_line) (a_tsize) (t_word) (a_own) (a_oth) (a_fst) (a_snd) (a_plc) res) (F0 m 22 ls [])) (hexit : ∀ t, o = .inr t → ∀ (H : Heap) (locs : List Loc) (ls : Array Slot), Wo D ad (Aw ad 124 s.heap.size) (eC ad adE y m_out t_draft m_tlen a_bytes m_nsize m_drafted a_letters a_nlen t_texts m_here m_fkind m_fplace m_toks t_types a_starts a_tlens m_heard m_qsize m_wayKnown m_way m_qKnown m_lineKnown m_nodes m_lsize a_tails a_heads a_gaps a_least m_csize a_ctails a_cheads a_cgaps a_leftOut a_qrow a_line a_tsize t_word a_own a_oth a_fst a_snd a_plc) s.heap H locs → lv_has ls 4 [(0, .ref (ad 7)), (1, .int u1), (2, .int t.1), (3, .int t.2)] → W p l e rm_X5_readNumber s m args below meth c H locs 0 0 (QM_X5_readNumber below args s D ad y adE (m_out) (t_draft) (m_tlen) (a_bytes) (m_nsize) (m_drafted) (a_letters) (a_nlen) (t_texts) (m_toks) (t_types) (a_starts) (a_tlens) (m_heard) (m_qsize) (m_wayKnown) (m_way) (m_qKnown) (m_lineKnown) (m_nodes) (m_lsize) (a_tails) (a_heads) (a_gaps) (a_least) (m_csize) (a_ctails) (a_cheads) (a_cgaps) (a_leftOut) (a_qrow) (a_line) (a_tsize) (t_word) (a_own) (a_oth) (a_fst) (a_snd) (a_plc) res) (F0 m 75 ls [])) : W p l e rm_X5_readNumber s m args below meth c H locs 0 0 (QM_X5_readNumber below args s D ad y adE (m_out) (t_draft) (m_tlen) (a_bytes) (m_nsize) (m_drafted) (a_letters) (a_nlen) (t_texts) (m_toks) (t_types) (a_starts) (a_tlens) (m_heard) (m_qsize) (m_wayKnown) (m_way) (m_qKnown) (m_lineKnown) (m_nodes) (m_lsize) (a_tails) (a_heads) (a_gaps) (a_least) (m_csize) (a_ctails) (a_cheads) (a_cgaps) (a_leftOut) (a_qrow) (a_line) (a_tsize) (t_word) (a_own) (a_oth) (a_fst) (a_snd) (a_plc) res) (F0 m 22 ls []) := by
  obtain ⟨hx, hb, hr, hml, hown, hts, hlocks, hK, hst⟩ := id C0
  have i_X5 : ∀ w ∈ u_ws RX5 TX5 6, w ∈ wsX5_readNumber := by decide +kernel
  have L_12 := hts (.fieldLink RX5 12 "CaseOrder$Reader" "tokens" "LCaseOrder$Tokens;") (by decide +kernel)
  have i_X10 : ∀ w ∈ u_ws RX10 TX10 4, w ∈ wsX5_readNumber := by decide +kernel
  have L_18 := hts (.fieldLink RX5 18 "CaseOrder$Reader" "here" "I") (by decide +kernel)
  have L_28 := hts (.fieldLink RX5 28 "CaseOrder$Reader" "tape" "LCaseOrder$Tape;") (by decide +kernel)
  have i_X7 : ∀ w ∈ u_ws RX7 TX7 2, w ∈ wsX5_readNumber := by decide +kernel
  have L_172 := hts (.fieldLink RX5 172 "CaseOrder$Tape" "bytes" "[B") (by decide +kernel)
  unfold f_X5_readNumber_l22 at hf
  refine lv_iload_n hx hb dX5_readNumber_22 rfl (lv_at hl 3 rfl) ?_
  refine lv_aload_n hx hb dX5_readNumber_23 rfl (lv_at hl 0 rfl) ?_
  refine g_get hx hb hts i_X5 hown hK hw 7 eC_c7 rfl 0 (by decide) L_12 (fun _ h => h) rfl dX5_readNumber_24 ?_
  refine g_getN hx hb hts i_X10 hown hK hw 8 eC_c8 rfl 2 (by decide) (sC_nw (w := .fieldLinkNest RX5 93 "CaseOrder$Tokens" "lengths" "[I" "CaseOrder") (by decide) rfl hst) (fun _ h => h) rfl dX5_readNumber_27 ?_
  refine lv_aload_n hx hb dX5_readNumber_30 rfl (lv_at hl 0 rfl) ?_
  refine g_get hx hb hts i_X5 hown hK hw 7 eC_c7 rfl 3 (by decide) L_18 (fun _ h => h) rfl dX5_readNumber_31 ?_
  obtain ⟨g10, hf⟩ := gIn_some hf
  refine g_iald hx hb hK hw 11 1 eC_c11 rfl g10 dX5_readNumber_34 ?_
  refine lv_icmp_ge (tgt := 75) hx hb dX5_readNumber_35 (by decide) (fun c11 => ?_) (fun c11 => ?_)
  · have hf := it_p c11 hf
    exact hexit _ (so hf).symm _ _ _ hw (lv_sub hl [0, 1, 2, 3] rfl)
  · have hf := it_n c11 hf
    refine lv_bipush (v := 10) hx hb dX5_readNumber_38 (by decide) ?_
    refine lv_iload_n hx hb dX5_readNumber_40 rfl (lv_at hl 2 rfl) ?_
    refine lv_imul hx hb dX5_readNumber_41 ?_
    refine lv_aload_n hx hb dX5_readNumber_42 rfl (lv_at hl 0 rfl) ?_
    refine g_get hx hb hts i_X5 hown hK hw 7 eC_c7 rfl 1 (by decide) L_28 (fun _ h => h) rfl dX5_readNumber_43 ?_
    refine g_get hx hb hts i_X7 hown hK hw 1 eC_c1 rfl 0 (by decide) L_172 (fun _ h => h) rfl dX5_readNumber_46 ?_
    refine lv_aload_n hx hb dX5_readNumber_49 rfl (lv_at hl 0 rfl) ?_
    refine g_get hx hb hts i_X5 hown hK hw 7 eC_c7 rfl 0 (by decide) L_12 (fun _ h => h) rfl dX5_readNumber_50 ?_
    refine g_getN hx hb hts i_X10 hown hK hw 8 eC_c8 rfl 1 (by decide) (sC_nw (w := .fieldLinkNest RX5 86 "CaseOrder$Tokens" "starts" "[I" "CaseOrder") (by decide) rfl hst) (fun _ h => h) rfl dX5_readNumber_53 ?_
    refine lv_aload_n hx hb dX5_readNumber_56 rfl (lv_at hl 0 rfl) ?_
    refine g_get hx hb hts i_X5 hown hK hw 7 eC_c7 rfl 3 (by decide) L_18 (fun _ h => h) rfl dX5_readNumber_57 ?_
    obtain ⟨g12, hf⟩ := gIn_some hf
    refine g_iald hx hb hK hw 10 1 eC_c10 rfl g12 dX5_readNumber_60 ?_
    refine lv_iload_n hx hb dX5_readNumber_61 rfl (lv_at hl 3 rfl) ?_
    refine lv_iadd hx hb dX5_readNumber_62 ?_
    obtain ⟨g13, hf⟩ := gIn_some hf
    refine g_bald hx hb hK hw 2 0 eC_c2 rfl g13 dX5_readNumber_63 ?_
    refine lv_iadd hx hb dX5_readNumber_64 ?_
    refine lv_bipush (v := 48) hx hb dX5_readNumber_65 (by decide) ?_
    refine lv_isub hx hb dX5_readNumber_67 ?_
    refine lv_istore_n (lv' := [(2, .int (((10 * sg.1) + (a_bytes (Int32.toNatClampNeg ((a_starts (Int32.toNatClampNeg m_here)) + sg.2)))) - 48)), (0, .ref (ad 7)), (1, .int u1), (3, .int sg.2)]) hx hb dX5_readNumber_68 rfl hl (by decide) rfl (fun ls hl => ?_)
    refine lv_iinc (v := sg.2 + 1) (lv' := [(3, .int (sg.2 + 1)), (2, .int (((10 * sg.1) + (a_bytes (Int32.toNatClampNeg ((a_starts (Int32.toNatClampNeg m_here)) + sg.2)))) - 48)), (0, .ref (ad 7)), (1, .int u1)]) hx hb dX5_readNumber_69 hl (k := 3) rfl rfl (by decide) rfl (fun ls hl => ?_)
    refine lv_goto (tgt := 22) hx hb dX5_readNumber_72 (by decide) ?_
    exact hcont _ (so hf).symm _ _ _ hw (lv_sub hl [2, 3, 1, 0] rfl)
set_option maxHeartbeats 4000000 in
theorem kl_X5_readNumber_22 {p : Program} {l : Launch} {e : Env} {s : State} {m : MethodId} {args : Array Value} {below : List Frame} {meth : Method} {c : Code} {D : va_G} {ad : Nat → Nat} {y : Nat → ClassId} {adE adK adV : Nat → Nat} {tkA swA : Nat} (C0 : CXT wsX5_readNumber cX5_readNumber RX5 4 (some .int) D (tyL y) (STC ad adE adK adV tkA swA) p s m args meth c) {m_out : Int32} {t_draft : Nat} {m_tlen : Int32} {a_bytes : Nat → Int32} {m_nsize : Int32} {m_drafted : Int32} {a_letters : Nat → Int32} {a_nlen : Nat → Int32} {t_texts : Nat → Nat} {m_here : Int32} {m_fkind : Int32} {m_fplace : Int32} {m_toks : Int32} {t_types : Nat → Nat} {a_starts : Nat → Int32} {a_tlens : Nat → Int32} {m_heard : Int32} {m_qsize : Int32} {m_wayKnown : Int32} {m_way : Int32} {m_qKnown : Int32} {m_lineKnown : Int32} {m_nodes : Int32} {m_lsize : Int32} {a_tails : Nat → Int32} {a_heads : Nat → Int32} {a_gaps : Nat → Int32} {a_least : Nat → Int32} {m_csize : Int32} {a_ctails : Nat → Int32} {a_cheads : Nat → Int32} {a_cgaps : Nat → Int32} {a_leftOut : Nat → Int32} {a_qrow : Nat → Int32} {a_line : Nat → Int32} {a_tsize : Nat → Int32} {t_word : Nat → Nat} {a_own : Nat → Int32} {a_oth : Nat → Int32} {a_fst : Nat → Int32} {a_snd : Nat → Int32} {a_plc : Nat → Int32} {u1 : Int32} {res : Int32 × Int32 × Int32 × Int32} : ∀ (n : Nat) (sg : Int32 × Int32) (q : Int32 × Int32), lp (f_X5_readNumber_l22 a_bytes m_here m_fkind m_fplace t_types a_starts a_tlens u1) n sg = some q → ∀ (H : Heap) (locs : List Loc) (ls : Array Slot), Wo D ad (Aw ad 124 s.heap.size) (eC ad adE y m_out t_draft m_tlen a_bytes m_nsize m_drafted a_letters a_nlen t_texts m_here m_fkind m_fplace m_toks t_types a_starts a_tlens m_heard m_qsize m_wayKnown m_way m_qKnown m_lineKnown m_nodes m_lsize a_tails a_heads a_gaps a_least m_csize a_ctails a_cheads a_cgaps a_leftOut a_qrow a_line a_tsize t_word a_own a_oth a_fst a_snd a_plc) s.heap H locs → lv_has ls 4 [(0, .ref (ad 7)), (1, .int u1), (2, .int sg.1), (3, .int sg.2)] → (∀ (H : Heap) (locs : List Loc) (ls : Array Slot), Wo D ad (Aw ad 124 s.heap.size) (eC ad adE y m_out t_draft m_tlen a_bytes m_nsize m_drafted a_letters a_nlen t_texts m_here m_fkind m_fplace m_toks t_types a_starts a_tlens m_heard m_qsize m_wayKnown m_way m_qKnown m_lineKnown m_nodes m_lsize a_tails a_heads a_gaps a_least m_csize a_ctails a_cheads a_cgaps a_leftOut a_qrow a_line a_tsize t_word a_own a_oth a_fst a_snd a_plc) s.heap H locs → lv_has ls 4 [(0, .ref (ad 7)), (1, .int u1), (2, .int q.1), (3, .int q.2)] → W p l e rm_X5_readNumber s m args below meth c H locs 0 0 (QM_X5_readNumber below args s D ad y adE (m_out) (t_draft) (m_tlen) (a_bytes) (m_nsize) (m_drafted) (a_letters) (a_nlen) (t_texts) (m_toks) (t_types) (a_starts) (a_tlens) (m_heard) (m_qsize) (m_wayKnown) (m_way) (m_qKnown) (m_lineKnown) (m_nodes) (m_lsize) (a_tails) (a_heads) (a_gaps) (a_least) (m_csize) (a_ctails) (a_cheads) (a_cgaps) (a_leftOut) (a_qrow) (a_line) (a_tsize) (t_word) (a_own) (a_oth) (a_fst) (a_snd) (a_plc) res) (F0 m 75 ls [])) → W p l e rm_X5_readNumber s m args below meth c H locs 0 0 (QM_X5_readNumber below args s D ad y adE (m_out) (t_draft) (m_tlen) (a_bytes) (m_nsize) (m_drafted) (a_letters) (a_nlen) (t_texts) (m_toks) (t_types) (a_starts) (a_tlens) (m_heard) (m_qsize) (m_wayKnown) (m_way) (m_qKnown) (m_lineKnown) (m_nodes) (m_lsize) (a_tails) (a_heads) (a_gaps) (a_least) (m_csize) (a_ctails) (a_cheads) (a_cgaps) (a_leftOut) (a_qrow) (a_line) (a_tsize) (t_word) (a_own) (a_oth) (a_fst) (a_snd) (a_plc) res) (F0 m 22 ls []) := by
  intro n
  induction n with
  | zero => intro sg q hf; exact absurd hf lp_zero
  | succ n ih =>
    intro sg q hf H locs ls hw hl hexit
    rcases lp_succ hf with ⟨sg2, h1, h2⟩ | h1
    · exact kw_X5_readNumber_22 C0 h1 hw hl (fun s2 e2 H locs ls hw hl => by cases e2; exact ih _ q h2 H locs ls hw hl hexit) (fun t e2 => by cases e2)
    · exact kw_X5_readNumber_22 C0 h1 hw hl (fun s2 e2 => by cases e2) (fun t e2 => by cases e2; exact hexit)
set_option maxHeartbeats 4000000 in
set_option maxRecDepth 100000 in
theorem ke_X5_readNumber {p : Program} {l : Launch} {e : Env} {s : State} {m : MethodId} {args : Array Value} {below : List Frame} {meth : Method} {c : Code} {D : va_G} {ad : Nat → Nat} {y : Nat → ClassId} {adE adK adV : Nat → Nat} {tkA swA : Nat} (C0 : CXT wsX5_readNumber cX5_readNumber RX5 4 (some .int) D (tyL y) (STC ad adE adK adV tkA swA) p s m args meth c) {m_out : Int32} {t_draft : Nat} {m_tlen : Int32} {a_bytes : Nat → Int32} {m_nsize : Int32} {m_drafted : Int32} {a_letters : Nat → Int32} {a_nlen : Nat → Int32} {t_texts : Nat → Nat} {m_here : Int32} {m_fkind : Int32} {m_fplace : Int32} {m_toks : Int32} {t_types : Nat → Nat} {a_starts : Nat → Int32} {a_tlens : Nat → Int32} {m_heard : Int32} {m_qsize : Int32} {m_wayKnown : Int32} {m_way : Int32} {m_qKnown : Int32} {m_lineKnown : Int32} {m_nodes : Int32} {m_lsize : Int32} {a_tails : Nat → Int32} {a_heads : Nat → Int32} {a_gaps : Nat → Int32} {a_least : Nat → Int32} {m_csize : Int32} {a_ctails : Nat → Int32} {a_cheads : Nat → Int32} {a_cgaps : Nat → Int32} {a_leftOut : Nat → Int32} {a_qrow : Nat → Int32} {a_line : Nat → Int32} {a_tsize : Nat → Int32} {t_word : Nat → Nat} {a_own : Nat → Int32} {a_oth : Nat → Int32} {a_fst : Nat → Int32} {a_snd : Nat → Int32} {a_plc : Nat → Int32} {p1 : Int32} {res : Int32 × Int32 × Int32 × Int32} (hf : f_X5_readNumber a_bytes m_here m_fkind m_fplace t_types a_starts a_tlens p1 = some res) {H : Heap} {locs : List Loc} {ls : Array Slot} (hw : Wo D ad (Aw ad 124 s.heap.size) (eC ad adE y m_out t_draft m_tlen a_bytes m_nsize m_drafted a_letters a_nlen t_texts m_here m_fkind m_fplace m_toks t_types a_starts a_tlens m_heard m_qsize m_wayKnown m_way m_qKnown m_lineKnown m_nodes m_lsize a_tails a_heads a_gaps a_least m_csize a_ctails a_cheads a_cgaps a_leftOut a_qrow a_line a_tsize t_word a_own a_oth a_fst a_snd a_plc) s.heap H locs) (hl : lv_has ls 4 [(0, .ref (ad 7)), (1, .int p1)]) : W p l e rm_X5_readNumber s m args below meth c H locs 0 0 (QM_X5_readNumber below args s D ad y adE (m_out) (t_draft) (m_tlen) (a_bytes) (m_nsize) (m_drafted) (a_letters) (a_nlen) (t_texts) (m_toks) (t_types) (a_starts) (a_tlens) (m_heard) (m_qsize) (m_wayKnown) (m_way) (m_qKnown) (m_lineKnown) (m_nodes) (m_lsize) (a_tails) (a_heads) (a_gaps) (a_least) (m_csize) (a_ctails) (a_cheads) (a_cgaps) (a_leftOut) (a_qrow) (a_line) (a_tsize) (t_word) (a_own) (a_oth) (a_fst) (a_snd) (a_plc) res) (F0 m 0 ls []) := by
  obtain ⟨hx, hb, hr, hml, hown, hts, hlocks, hK, hst⟩ := id C0
  have L_169 := hts (.fieldLink RX5 169 "CaseOrder$Token" "NUMBER" "LCaseOrder$Token;") (by decide +kernel)
  unfold f_X5_readNumber at hf
  refine lv_aload_n hx hb dX5_readNumber_0 rfl (lv_at hl 0 rfl) ?_
  refine va_gets hx hb (sC_tok 9 (by decide) rfl hst) hw.2.2 hown L_169 (fun _ h => h) dX5_readNumber_1 ?_
  obtain ⟨q8, hq8, hf⟩ := bd hf
  refine g_Vi (As := [.ref (adE 9)]) (rest := []) ⟨hx, hb, hml, hown, hts⟩ (k_X5_is hq8) (cwV 1 hts gX5_readNumber_X5_is rfl rfl rfl (by decide +kernel) ⟨Nat.le_of_ble_eq_true rfl, Nat.le_of_ble_eq_true rfl⟩) STC_ok hst hK hw (eC_len.trans eC_len.symm) eC_c7 rfl rfl hl.1 rfl (Nat.le_of_ble_eq_true rfl) dX5_readNumber_4 ⟨Nat.zero_le _, Nat.zero_le _⟩ (fun H locs hw => ?_)
  refine lv_if_ne (tgt := 18) hx hb dX5_readNumber_7 (by decide) (fun c9 => ?_) (fun c9 => ?_)
  · have hf := it_n c9 hf
    refine lv_iconst (v := 0) hx hb dX5_readNumber_18 (by decide) ?_
    refine lv_istore_n (lv' := [(2, .int 0), (0, .ref (ad 7)), (1, .int p1)]) hx hb dX5_readNumber_19 rfl hl (by decide) rfl (fun ls hl => ?_)
    refine lv_iconst (v := 0) hx hb dX5_readNumber_20 (by decide) ?_
    refine lv_istore_n (lv' := [(3, .int 0), (2, .int 0), (0, .ref (ad 7)), (1, .int p1)]) hx hb dX5_readNumber_21 rfl hl (by decide) rfl (fun ls hl => ?_)
    obtain ⟨q14, hq14, hf⟩ := bd hf
    refine kl_X5_readNumber_22 C0 gFU _ _ hq14 _ _ _ hw (lv_sub hl [2, 3, 1, 0] rfl) (fun H locs ls hw hl => ?_)
    have hw : Wo D ad (Aw ad 124 s.heap.size) (eC ad adE y m_out t_draft m_tlen a_bytes m_nsize m_drafted a_letters a_nlen t_texts m_here m_fkind m_fplace m_toks t_types a_starts a_tlens m_heard m_qsize m_wayKnown m_way m_qKnown m_lineKnown m_nodes m_lsize a_tails a_heads a_gaps a_least m_csize a_ctails a_cheads a_cgaps a_leftOut a_qrow a_line a_tsize t_word a_own a_oth a_fst a_snd a_plc) s.heap H locs := hw
    have hl : lv_has ls 4 [(0, .ref (ad 7)), (1, .int p1), (2, .int q14.1), (3, .int q14.2)] := hl
    refine lv_iload_n hx hb dX5_readNumber_75 rfl (lv_at hl 2 rfl) ?_
    refine lv_iload_n hx hb dX5_readNumber_76 rfl (lv_at hl 1 rfl) ?_
    refine lv_icmp_ge (tgt := 88) hx hb dX5_readNumber_77 (by decide) (fun c15 => ?_) (fun c15 => ?_)
    · have hf := it_p c15 hf
      refine lv_aload_n hx hb dX5_readNumber_88 rfl (lv_at hl 0 rfl) ?_
      obtain ⟨q16, hq16, hf⟩ := bd hf
      refine g_Vi (As := []) (rest := []) ⟨hx, hb, hml, hown, hts⟩ (k_X5_pass hq16) (cwV 0 hts gX5_readNumber_X5_pass rfl rfl rfl (by decide +kernel) ⟨Nat.le_of_ble_eq_true rfl, Nat.le_of_ble_eq_true rfl⟩) STC_ok hst hK hw (eC_len.trans eC_len.symm) eC_c7 rfl rfl hl.1 rfl (Nat.le_of_ble_eq_true rfl) dX5_readNumber_89 ⟨Nat.zero_le _, Nat.zero_le _⟩ (fun H locs hw => ?_)
      have hw : Wo D ad (Aw ad 124 s.heap.size) (eC ad adE y m_out t_draft m_tlen a_bytes m_nsize m_drafted a_letters a_nlen t_texts q16.2 m_fkind m_fplace m_toks t_types a_starts a_tlens m_heard m_qsize m_wayKnown m_way m_qKnown m_lineKnown m_nodes m_lsize a_tails a_heads a_gaps a_least m_csize a_ctails a_cheads a_cgaps a_leftOut a_qrow a_line a_tsize t_word a_own a_oth a_fst a_snd a_plc) s.heap H locs := hw
      refine lv_pop hx hb dX5_readNumber_92 rfl ?_
      refine lv_iload_n hx hb dX5_readNumber_93 rfl (lv_at hl 2 rfl) ?_
      obtain rfl := so hf
      exact W.iret (v := q14.1) hx hb hr (fun t ht _ => g_end hw t ht) hw.2.2.2.2 dX5_readNumber_94
    · have hf := it_n c15 hf
      refine lv_aload_n hx hb dX5_readNumber_80 rfl (lv_at hl 0 rfl) ?_
      refine lv_iconst (v := 2) hx hb dX5_readNumber_81 (by decide) ?_
      obtain ⟨q17, hq17, hf⟩ := bd hf
      refine g_Vi (As := [.int 2]) (rest := []) ⟨hx, hb, hml, hown, hts⟩ (k_X5_refuse hq17) (cwV 1 hts gX5_readNumber_X5_refuse rfl rfl rfl (by decide +kernel) ⟨Nat.le_of_ble_eq_true rfl, Nat.le_of_ble_eq_true rfl⟩) STC_ok hst hK hw (eC_len.trans eC_len.symm) eC_c7 rfl rfl hl.1 rfl (Nat.le_of_ble_eq_true rfl) dX5_readNumber_82 ⟨Nat.zero_le _, Nat.zero_le _⟩ (fun H locs hw => ?_)
      have hw : Wo D ad (Aw ad 124 s.heap.size) (eC ad adE y m_out t_draft m_tlen a_bytes m_nsize m_drafted a_letters a_nlen t_texts m_here q17.2.1 q17.2.2 m_toks t_types a_starts a_tlens m_heard m_qsize m_wayKnown m_way m_qKnown m_lineKnown m_nodes m_lsize a_tails a_heads a_gaps a_least m_csize a_ctails a_cheads a_cgaps a_leftOut a_qrow a_line a_tsize t_word a_own a_oth a_fst a_snd a_plc) s.heap H locs := hw
      refine lv_pop hx hb dX5_readNumber_85 rfl ?_
      refine lv_iconst (v := (-1)) hx hb dX5_readNumber_86 (by decide) ?_
      obtain rfl := so hf
      exact W.iret (v := (-1)) hx hb hr (fun t ht _ => g_end hw t ht) hw.2.2.2.2 dX5_readNumber_87
  · have hf := it_p c9 hf
    refine lv_aload_n hx hb dX5_readNumber_10 rfl (lv_at hl 0 rfl) ?_
    refine lv_iconst (v := 1) hx hb dX5_readNumber_11 (by decide) ?_
    obtain ⟨q18, hq18, hf⟩ := bd hf
    refine g_Vi (As := [.int 1]) (rest := []) ⟨hx, hb, hml, hown, hts⟩ (k_X5_refuse hq18) (cwV 1 hts gX5_readNumber_X5_refuse rfl rfl rfl (by decide +kernel) ⟨Nat.le_of_ble_eq_true rfl, Nat.le_of_ble_eq_true rfl⟩) STC_ok hst hK hw (eC_len.trans eC_len.symm) eC_c7 rfl rfl hl.1 rfl (Nat.le_of_ble_eq_true rfl) dX5_readNumber_12 ⟨Nat.zero_le _, Nat.zero_le _⟩ (fun H locs hw => ?_)
    have hw : Wo D ad (Aw ad 124 s.heap.size) (eC ad adE y m_out t_draft m_tlen a_bytes m_nsize m_drafted a_letters a_nlen t_texts m_here q18.2.1 q18.2.2 m_toks t_types a_starts a_tlens m_heard m_qsize m_wayKnown m_way m_qKnown m_lineKnown m_nodes m_lsize a_tails a_heads a_gaps a_least m_csize a_ctails a_cheads a_cgaps a_leftOut a_qrow a_line a_tsize t_word a_own a_oth a_fst a_snd a_plc) s.heap H locs := hw
    refine lv_pop hx hb dX5_readNumber_15 rfl ?_
    refine lv_iconst (v := (-1)) hx hb dX5_readNumber_16 (by decide) ?_
    obtain rfl := so hf
    exact W.iret (v := (-1)) hx hb hr (fun t ht _ => g_end hw t ht) hw.2.2.2.2 dX5_readNumber_17
set_option maxHeartbeats 4000000 in
theorem k_X5_readNumber {l : Launch} {D : va_G} {ad : Nat → Nat} {y : Nat → ClassId} {adE adK adV : Nat → Nat} {tkA swA : Nat} {m_out : Int32} {t_draft : Nat} {m_tlen : Int32} {a_bytes : Nat → Int32} {m_nsize : Int32} {m_drafted : Int32} {a_letters : Nat → Int32} {a_nlen : Nat → Int32} {t_texts : Nat → Nat} {m_here : Int32} {m_fkind : Int32} {m_fplace : Int32} {m_toks : Int32} {t_types : Nat → Nat} {a_starts : Nat → Int32} {a_tlens : Nat → Int32} {m_heard : Int32} {m_qsize : Int32} {m_wayKnown : Int32} {m_way : Int32} {m_qKnown : Int32} {m_lineKnown : Int32} {m_nodes : Int32} {m_lsize : Int32} {a_tails : Nat → Int32} {a_heads : Nat → Int32} {a_gaps : Nat → Int32} {a_least : Nat → Int32} {m_csize : Int32} {a_ctails : Nat → Int32} {a_cheads : Nat → Int32} {a_cgaps : Nat → Int32} {a_leftOut : Nat → Int32} {a_qrow : Nat → Int32} {a_line : Nat → Int32} {a_tsize : Nat → Int32} {t_word : Nat → Nat} {a_own : Nat → Int32} {a_oth : Nat → Int32} {a_fst : Nat → Int32} {a_snd : Nat → Int32} {a_plc : Nat → Int32} {p1 : Int32} {res : Int32 × Int32 × Int32 × Int32} (hf : f_X5_readNumber a_bytes m_here m_fkind m_fplace t_types a_starts a_tlens p1 = some res) : CTi l yX5_readNumber wsX5_readNumber rm_X5_readNumber D ad 124 (tyL y) (STC ad adE adK adV tkA swA) (eC ad adE y m_out t_draft m_tlen a_bytes m_nsize m_drafted a_letters a_nlen t_texts m_here m_fkind m_fplace m_toks t_types a_starts a_tlens m_heard m_qsize m_wayKnown m_way m_qKnown m_lineKnown m_nodes m_lsize a_tails a_heads a_gaps a_least m_csize a_ctails a_cheads a_cgaps a_leftOut a_qrow a_line a_tsize t_word a_own a_oth a_fst a_snd a_plc) (eC ad adE y m_out t_draft m_tlen a_bytes m_nsize m_drafted a_letters a_nlen t_texts res.2.1 res.2.2.1 res.2.2.2 m_toks t_types a_starts a_tlens m_heard m_qsize m_wayKnown m_way m_qKnown m_lineKnown m_nodes m_lsize a_tails a_heads a_gaps a_least m_csize a_ctails a_cheads a_cgaps a_leftOut a_qrow a_line a_tsize t_word a_own a_oth a_fst a_snd a_plc) [.ref (ad 7), .int p1] res.1 := by
  intro sz
  refine Met.ofW (cc := cX5_readNumber) (maxL := 4) (ret := (some .int)) (by decide) rfl ?_
  intro p e s m args below meth c s₁ B hml hv
  obtain ⟨rfl, hsz, hP, hK, hD0, hst⟩ := hv
  subst hsz
  have C0 : CXT wsX5_readNumber cX5_readNumber RX5 4 (some .int) D (tyL y) (STC ad adE adK adV tkA swA) p s m ([.ref (ad 7), .int p1] : List Value).toArray meth c := ⟨B.exec, B.bytes, B.returns, hml, findClass_of_methodNamed B.named, atoms_spec (ws := wsX5_readNumber) B.pre, B.notSynchronized, hK, hst⟩
  have hw := g_start (n := 124) eC_len hP hD0
  have hl := lv_entry ([.ref (ad 7), .int p1]) (n := 4) (Nat.le_of_ble_eq_true rfl)
  rw [lg_entry_eq]
  generalize (lg_sl ([.ref (ad 7), .int p1]) ++ List.replicate (4 - (lg_sl ([.ref (ad 7), .int p1])).length) Slot.unset).toArray = ls at hl ⊢
  have hl : lv_has ls 4 [(0, .ref (ad 7)), (1, .int p1)] := hl
  exact ke_X5_readNumber C0 hf hw hl
abbrev rm_X5_readFirst : Room := { frames := 2, cells := 0, slots := 0, locals := 44 }
abbrev QM_X5_readFirst (below : List Frame) (args : Array Value) (s : State) (D : va_G) (ad : Nat → Nat) (y : Nat → ClassId) (adE : Nat → Nat) (m_out : Int32) (t_draft : Nat) (m_tlen : Int32) (a_bytes : Nat → Int32) (m_nsize : Int32) (m_drafted : Int32) (a_letters : Nat → Int32) (a_nlen : Nat → Int32) (t_texts : Nat → Nat) (m_toks : Int32) (t_types : Nat → Nat) (a_starts : Nat → Int32) (a_tlens : Nat → Int32) (m_heard : Int32) (m_qsize : Int32) (m_wayKnown : Int32) (m_way : Int32) (m_qKnown : Int32) (m_lineKnown : Int32) (m_nodes : Int32) (m_lsize : Int32) (a_tails : Nat → Int32) (a_heads : Nat → Int32) (a_gaps : Nat → Int32) (a_least : Nat → Int32) (m_csize : Int32) (a_ctails : Nat → Int32) (a_cheads : Nat → Int32) (a_cgaps : Nat → Int32) (a_leftOut : Nat → Int32) (a_qrow : Nat → Int32) (a_line : Nat → Int32) (a_tsize : Nat → Int32) (t_word : Nat → Nat) (a_own : Nat → Int32) (a_oth : Nat → Int32) (a_snd : Nat → Int32) (a_plc : Nat → Int32) (res : Int32 × Int32 × Int32 × Int32 × (Nat → Int32)) : State → Prop := MQ below (va_Qi (fun x (_ : Unit) => x = res.1) (fun _ t => va_P D vwCl (wls ad (eC ad adE y m_out t_draft m_tlen a_bytes m_nsize m_drafted a_letters a_nlen t_texts res.2.1 res.2.2.1 res.2.2.2.1 m_toks t_types a_starts a_tlens m_heard m_qsize m_wayKnown m_way m_qKnown m_lineKnown m_nodes m_lsize a_tails a_heads a_gaps a_least m_csize a_ctails a_cheads a_cgaps a_leftOut a_qrow a_line a_tsize t_word a_own a_oth res.2.2.2.2 a_snd a_plc)) t.heap) (Aw ad 124 s.heap.size)) args s 0 0 (Aw ad 124 s.heap.size)
set_option maxHeartbeats 4000000 in
set_option maxRecDepth 100000 in
theorem ke_X5_readFirst {p : Program} {l : Launch} {e : Env} {s : State} {m : MethodId} {args : Array Value} {below : List Frame} {meth : Method} {c : Code} {D : va_G} {ad : Nat → Nat} {y : Nat → ClassId} {adE adK adV : Nat → Nat} {tkA swA : Nat} (C0 : CXT wsX5_readFirst cX5_readFirst RX5 3 (some .boolean) D (tyL y) (STC ad adE adK adV tkA swA) p s m args meth c) {m_out : Int32} {t_draft : Nat} {m_tlen : Int32} {a_bytes : Nat → Int32} {m_nsize : Int32} {m_drafted : Int32} {a_letters : Nat → Int32} {a_nlen : Nat → Int32} {t_texts : Nat → Nat} {m_here : Int32} {m_fkind : Int32} {m_fplace : Int32} {m_toks : Int32} {t_types : Nat → Nat} {a_starts : Nat → Int32} {a_tlens : Nat → Int32} {m_heard : Int32} {m_qsize : Int32} {m_wayKnown : Int32} {m_way : Int32} {m_qKnown : Int32} {m_lineKnown : Int32} {m_nodes : Int32} {m_lsize : Int32} {a_tails : Nat → Int32} {a_heads : Nat → Int32} {a_gaps : Nat → Int32} {a_least : Nat → Int32} {m_csize : Int32} {a_ctails : Nat → Int32} {a_cheads : Nat → Int32} {a_cgaps : Nat → Int32} {a_leftOut : Nat → Int32} {a_qrow : Nat → Int32} {a_line : Nat → Int32} {a_tsize : Nat → Int32} {t_word : Nat → Nat} {a_own : Nat → Int32} {a_oth : Nat → Int32} {a_fst : Nat → Int32} {a_snd : Nat → Int32} {a_plc : Nat → Int32} {p1 : Nat} {p2 : Int32} {res : Int32 × Int32 × Int32 × Int32 × (Nat → Int32)} (hf : f_X5_readFirst a_bytes m_here m_fkind m_fplace t_types a_starts a_tlens a_fst p1 p2 = some res) {H : Heap} {locs : List Loc} {ls : Array Slot} (hw : Wo D ad (Aw ad 124 s.heap.size) (eC ad adE y m_out t_draft m_tlen a_bytes m_nsize m_drafted a_letters a_nlen t_texts m_here m_fkind m_fplace m_toks t_types a_starts a_tlens m_heard m_qsize m_wayKnown m_way m_qKnown m_lineKnown m_nodes m_lsize a_tails a_heads a_gaps a_least m_csize a_ctails a_cheads a_cgaps a_leftOut a_qrow a_line a_tsize t_word a_own a_oth a_fst a_snd a_plc) s.heap H locs) (hl : lv_has ls 3 [(0, .ref (ad 7)), (1, .ref (ad (40 + p1))), (2, .int p2)]) : W p l e rm_X5_readFirst s m args below meth c H locs 0 0 (QM_X5_readFirst below args s D ad y adE (m_out) (t_draft) (m_tlen) (a_bytes) (m_nsize) (m_drafted) (a_letters) (a_nlen) (t_texts) (m_toks) (t_types) (a_starts) (a_tlens) (m_heard) (m_qsize) (m_wayKnown) (m_way) (m_qKnown) (m_lineKnown) (m_nodes) (m_lsize) (a_tails) (a_heads) (a_gaps) (a_least) (m_csize) (a_ctails) (a_cheads) (a_cgaps) (a_leftOut) (a_qrow) (a_line) (a_tsize) (t_word) (a_own) (a_oth) (a_snd) (a_plc) res) (F0 m 0 ls []) := by
  obtain ⟨hx, hb, hr, hml, hown, hts, hlocks, hK, hst⟩ := id C0
  have i_X6 : ∀ w ∈ u_ws RX6 TX6 6, w ∈ wsX5_readFirst := by decide +kernel
  have L_157 := hts (.fieldLink RX5 157 "CaseOrder$Saying" "first" "I") (by decide +kernel)
  unfold f_X5_readFirst at hf
  refine lv_aload_n hx hb dX5_readFirst_0 rfl (lv_at hl 1 rfl) ?_
  refine lv_aload_n hx hb dX5_readFirst_1 rfl (lv_at hl 0 rfl) ?_
  refine lv_iload_n hx hb dX5_readFirst_2 rfl (lv_at hl 2 rfl) ?_
  obtain ⟨q4, hq4, hf⟩ := bd hf
  refine g_Vi (As := [.int p2]) (rest := [.ref (ad (40 + p1))]) ⟨hx, hb, hml, hown, hts⟩ (k_X5_readNumber hq4) (cwV 1 hts gX5_readFirst_X5_readNumber rfl rfl rfl (by decide +kernel) ⟨Nat.le_of_ble_eq_true rfl, Nat.le_of_ble_eq_true rfl⟩) STC_ok hst hK hw (eC_len.trans eC_len.symm) eC_c7 rfl rfl hl.1 rfl (Nat.le_of_ble_eq_true rfl) dX5_readFirst_3 ⟨Nat.zero_le _, Nat.zero_le _⟩ (fun H locs hw => ?_)
  have hw : Wo D ad (Aw ad 124 s.heap.size) (eC ad adE y m_out t_draft m_tlen a_bytes m_nsize m_drafted a_letters a_nlen t_texts q4.2.1 q4.2.2.1 q4.2.2.2 m_toks t_types a_starts a_tlens m_heard m_qsize m_wayKnown m_way m_qKnown m_lineKnown m_nodes m_lsize a_tails a_heads a_gaps a_least m_csize a_ctails a_cheads a_cgaps a_leftOut a_qrow a_line a_tsize t_word a_own a_oth a_fst a_snd a_plc) s.heap H locs := hw
  obtain ⟨g5, hf⟩ := gN_some hf
  refine g_put (ty := .int) hx hb hts i_X6 tyX6 tyX6_ok nmX6 hown hK hw (40 + p1) (eC_S g5) rfl 3 (by decide) L_157 (fun _ h => h) rfl (by decide +kernel) rfl rfl (Nat.le_of_ble_eq_true rfl) dX5_readFirst_6 (fun H locs hw => ?_)
  rw [eC_sS3 g5] at hw
  have hw : Wo D ad (Aw ad 124 s.heap.size) (eC ad adE y m_out t_draft m_tlen a_bytes m_nsize m_drafted a_letters a_nlen t_texts q4.2.1 q4.2.2.1 q4.2.2.2 m_toks t_types a_starts a_tlens m_heard m_qsize m_wayKnown m_way m_qKnown m_lineKnown m_nodes m_lsize a_tails a_heads a_gaps a_least m_csize a_ctails a_cheads a_cgaps a_leftOut a_qrow a_line a_tsize t_word a_own a_oth (upd a_fst p1 q4.1) a_snd a_plc) s.heap H locs := hw
  refine lv_aload_n hx hb dX5_readFirst_9 rfl (lv_at hl 1 rfl) ?_
  refine g_get hx hb hts i_X6 hown hK hw (40 + p1) (eC_S g5) rfl 3 (by decide) L_157 (fun _ h => h) rfl dX5_readFirst_10 ?_
  refine lv_iconst (v := (-1)) hx hb dX5_readFirst_13 (by decide) ?_
  refine lv_icmp_eq (tgt := 21) hx hb dX5_readFirst_14 (by decide) (fun c6 => ?_) (fun c6 => ?_)
  · have hf := it_p c6 hf
    refine lv_iconst (v := 0) hx hb dX5_readFirst_21 (by decide) ?_
    obtain rfl := so hf
    exact W.zret (v := 0) hx hb hr rfl (fun t ht _ => g_end hw t ht) hw.2.2.2.2 dX5_readFirst_22
  · have hf := it_n c6 hf
    refine lv_iconst (v := 1) hx hb dX5_readFirst_17 (by decide) ?_
    refine lv_goto (tgt := 22) hx hb dX5_readFirst_18 (by decide) ?_
    obtain rfl := so hf
    exact W.zret (v := 1) hx hb hr rfl (fun t ht _ => g_end hw t ht) hw.2.2.2.2 dX5_readFirst_22
set_option maxHeartbeats 4000000 in
theorem k_X5_readFirst {l : Launch} {D : va_G} {ad : Nat → Nat} {y : Nat → ClassId} {adE adK adV : Nat → Nat} {tkA swA : Nat} {m_out : Int32} {t_draft : Nat} {m_tlen : Int32} {a_bytes : Nat → Int32} {m_nsize : Int32} {m_drafted : Int32} {a_letters : Nat → Int32} {a_nlen : Nat → Int32} {t_texts : Nat → Nat} {m_here : Int32} {m_fkind : Int32} {m_fplace : Int32} {m_toks : Int32} {t_types : Nat → Nat} {a_starts : Nat → Int32} {a_tlens : Nat → Int32} {m_heard : Int32} {m_qsize : Int32} {m_wayKnown : Int32} {m_way : Int32} {m_qKnown : Int32} {m_lineKnown : Int32} {m_nodes : Int32} {m_lsize : Int32} {a_tails : Nat → Int32} {a_heads : Nat → Int32} {a_gaps : Nat → Int32} {a_least : Nat → Int32} {m_csize : Int32} {a_ctails : Nat → Int32} {a_cheads : Nat → Int32} {a_cgaps : Nat → Int32} {a_leftOut : Nat → Int32} {a_qrow : Nat → Int32} {a_line : Nat → Int32} {a_tsize : Nat → Int32} {t_word : Nat → Nat} {a_own : Nat → Int32} {a_oth : Nat → Int32} {a_fst : Nat → Int32} {a_snd : Nat → Int32} {a_plc : Nat → Int32} {p1 : Nat} {p2 : Int32} {res : Int32 × Int32 × Int32 × Int32 × (Nat → Int32)} (hf : f_X5_readFirst a_bytes m_here m_fkind m_fplace t_types a_starts a_tlens a_fst p1 p2 = some res) : CTi l yX5_readFirst wsX5_readFirst rm_X5_readFirst D ad 124 (tyL y) (STC ad adE adK adV tkA swA) (eC ad adE y m_out t_draft m_tlen a_bytes m_nsize m_drafted a_letters a_nlen t_texts m_here m_fkind m_fplace m_toks t_types a_starts a_tlens m_heard m_qsize m_wayKnown m_way m_qKnown m_lineKnown m_nodes m_lsize a_tails a_heads a_gaps a_least m_csize a_ctails a_cheads a_cgaps a_leftOut a_qrow a_line a_tsize t_word a_own a_oth a_fst a_snd a_plc) (eC ad adE y m_out t_draft m_tlen a_bytes m_nsize m_drafted a_letters a_nlen t_texts res.2.1 res.2.2.1 res.2.2.2.1 m_toks t_types a_starts a_tlens m_heard m_qsize m_wayKnown m_way m_qKnown m_lineKnown m_nodes m_lsize a_tails a_heads a_gaps a_least m_csize a_ctails a_cheads a_cgaps a_leftOut a_qrow a_line a_tsize t_word a_own a_oth res.2.2.2.2 a_snd a_plc) [.ref (ad 7), .ref (ad (40 + p1)), .int p2] res.1 := by
  intro sz
  refine Met.ofW (cc := cX5_readFirst) (maxL := 3) (ret := (some .boolean)) (by decide) rfl ?_
  intro p e s m args below meth c s₁ B hml hv
  obtain ⟨rfl, hsz, hP, hK, hD0, hst⟩ := hv
  subst hsz
  have C0 : CXT wsX5_readFirst cX5_readFirst RX5 3 (some .boolean) D (tyL y) (STC ad adE adK adV tkA swA) p s m ([.ref (ad 7), .ref (ad (40 + p1)), .int p2] : List Value).toArray meth c := ⟨B.exec, B.bytes, B.returns, hml, findClass_of_methodNamed B.named, atoms_spec (ws := wsX5_readFirst) B.pre, B.notSynchronized, hK, hst⟩
  have hw := g_start (n := 124) eC_len hP hD0
  have hl := lv_entry ([.ref (ad 7), .ref (ad (40 + p1)), .int p2]) (n := 3) (Nat.le_of_ble_eq_true rfl)
  rw [lg_entry_eq]
  generalize (lg_sl ([.ref (ad 7), .ref (ad (40 + p1)), .int p2]) ++ List.replicate (3 - (lg_sl ([.ref (ad 7), .ref (ad (40 + p1)), .int p2])).length) Slot.unset).toArray = ls at hl ⊢
  have hl : lv_has ls 3 [(0, .ref (ad 7)), (1, .ref (ad (40 + p1))), (2, .int p2)] := hl
  exact ke_X5_readFirst C0 hf hw hl
abbrev rm_X5_readGapIfAny : Room := { frames := 3, cells := 0, slots := 0, locals := 66 }
abbrev QM_X5_readGapIfAny (below : List Frame) (args : Array Value) (s : State) (D : va_G) (ad : Nat → Nat) (y : Nat → ClassId) (adE : Nat → Nat) (m_out : Int32) (t_draft : Nat) (m_tlen : Int32) (a_bytes : Nat → Int32) (m_nsize : Int32) (m_drafted : Int32) (a_letters : Nat → Int32) (a_nlen : Nat → Int32) (t_texts : Nat → Nat) (m_toks : Int32) (t_types : Nat → Nat) (a_starts : Nat → Int32) (a_tlens : Nat → Int32) (m_heard : Int32) (m_qsize : Int32) (m_wayKnown : Int32) (m_way : Int32) (m_qKnown : Int32) (m_lineKnown : Int32) (m_nodes : Int32) (m_lsize : Int32) (a_tails : Nat → Int32) (a_heads : Nat → Int32) (a_gaps : Nat → Int32) (a_least : Nat → Int32) (m_csize : Int32) (a_ctails : Nat → Int32) (a_cheads : Nat → Int32) (a_cgaps : Nat → Int32) (a_leftOut : Nat → Int32) (a_qrow : Nat → Int32) (a_line : Nat → Int32) (a_tsize : Nat → Int32) (t_word : Nat → Nat) (a_own : Nat → Int32) (a_oth : Nat → Int32) (a_snd : Nat → Int32) (a_plc : Nat → Int32) (res : Int32 × Int32 × Int32 × Int32 × (Nat → Int32)) : State → Prop := MQ below (va_Qi (fun x (_ : Unit) => x = res.1) (fun _ t => va_P D vwCl (wls ad (eC ad adE y m_out t_draft m_tlen a_bytes m_nsize m_drafted a_letters a_nlen t_texts res.2.1 res.2.2.1 res.2.2.2.1 m_toks t_types a_starts a_tlens m_heard m_qsize m_wayKnown m_way m_qKnown m_lineKnown m_nodes m_lsize a_tails a_heads a_gaps a_least m_csize a_ctails a_cheads a_cgaps a_leftOut a_qrow a_line a_tsize t_word a_own a_oth res.2.2.2.2 a_snd a_plc)) t.heap) (Aw ad 124 s.heap.size)) args s 0 0 (Aw ad 124 s.heap.size)
set_option maxHeartbeats 4000000 in
set_option maxRecDepth 100000 in
theorem ke_X5_readGapIfAny {p : Program} {l : Launch} {e : Env} {s : State} {m : MethodId} {args : Array Value} {below : List Frame} {meth : Method} {c : Code} {D : va_G} {ad : Nat → Nat} {y : Nat → ClassId} {adE adK adV : Nat → Nat} {tkA swA : Nat} (C0 : CXT wsX5_readGapIfAny cX5_readGapIfAny RX5 2 (some .boolean) D (tyL y) (STC ad adE adK adV tkA swA) p s m args meth c) {m_out : Int32} {t_draft : Nat} {m_tlen : Int32} {a_bytes : Nat → Int32} {m_nsize : Int32} {m_drafted : Int32} {a_letters : Nat → Int32} {a_nlen : Nat → Int32} {t_texts : Nat → Nat} {m_here : Int32} {m_fkind : Int32} {m_fplace : Int32} {m_toks : Int32} {t_types : Nat → Nat} {a_starts : Nat → Int32} {a_tlens : Nat → Int32} {m_heard : Int32} {m_qsize : Int32} {m_wayKnown : Int32} {m_way : Int32} {m_qKnown : Int32} {m_lineKnown : Int32} {m_nodes : Int32} {m_lsize : Int32} {a_tails : Nat → Int32} {a_heads : Nat → Int32} {a_gaps : Nat → Int32} {a_least : Nat → Int32} {m_csize : Int32} {a_ctails : Nat → Int32} {a_cheads : Nat → Int32} {a_cgaps : Nat → Int32} {a_leftOut : Nat → Int32} {a_qrow : Nat → Int32} {a_line : Nat → Int32} {a_tsize : Nat → Int32} {t_word : Nat → Nat} {a_own : Nat → Int32} {a_oth : Nat → Int32} {a_fst : Nat → Int32} {a_snd : Nat → Int32} {a_plc : Nat → Int32} {p1 : Nat} {res : Int32 × Int32 × Int32 × Int32 × (Nat → Int32)} (hf : f_X5_readGapIfAny a_bytes m_here m_fkind m_fplace t_types a_starts a_tlens a_fst p1 = some res) {H : Heap} {locs : List Loc} {ls : Array Slot} (hw : Wo D ad (Aw ad 124 s.heap.size) (eC ad adE y m_out t_draft m_tlen a_bytes m_nsize m_drafted a_letters a_nlen t_texts m_here m_fkind m_fplace m_toks t_types a_starts a_tlens m_heard m_qsize m_wayKnown m_way m_qKnown m_lineKnown m_nodes m_lsize a_tails a_heads a_gaps a_least m_csize a_ctails a_cheads a_cgaps a_leftOut a_qrow a_line a_tsize t_word a_own a_oth a_fst a_snd a_plc) s.heap H locs) (hl : lv_has ls 2 [(0, .ref (ad 7)), (1, .ref (ad (40 + p1)))]) : W p l e rm_X5_readGapIfAny s m args below meth c H locs 0 0 (QM_X5_readGapIfAny below args s D ad y adE (m_out) (t_draft) (m_tlen) (a_bytes) (m_nsize) (m_drafted) (a_letters) (a_nlen) (t_texts) (m_toks) (t_types) (a_starts) (a_tlens) (m_heard) (m_qsize) (m_wayKnown) (m_way) (m_qKnown) (m_lineKnown) (m_nodes) (m_lsize) (a_tails) (a_heads) (a_gaps) (a_least) (m_csize) (a_ctails) (a_cheads) (a_cgaps) (a_leftOut) (a_qrow) (a_line) (a_tsize) (t_word) (a_own) (a_oth) (a_snd) (a_plc) res) (F0 m 0 ls []) := by
  obtain ⟨hx, hb, hr, hml, hown, hts, hlocks, hK, hst⟩ := id C0
  have L_150 := hts (.fieldLink RX5 150 "CaseOrder$Token" "BY" "LCaseOrder$Token;") (by decide +kernel)
  unfold f_X5_readGapIfAny at hf
  refine lv_aload_n hx hb dX5_readGapIfAny_0 rfl (lv_at hl 0 rfl) ?_
  refine va_gets hx hb (sC_tok 2 (by decide) rfl hst) hw.2.2 hown L_150 (fun _ h => h) dX5_readGapIfAny_1 ?_
  obtain ⟨q4, hq4, hf⟩ := bd hf
  refine g_Vi (As := [.ref (adE 2)]) (rest := []) ⟨hx, hb, hml, hown, hts⟩ (k_X5_is hq4) (cwV 1 hts gX5_readGapIfAny_X5_is rfl rfl rfl (by decide +kernel) ⟨Nat.le_of_ble_eq_true rfl, Nat.le_of_ble_eq_true rfl⟩) STC_ok hst hK hw (eC_len.trans eC_len.symm) eC_c7 rfl rfl hl.1 rfl (Nat.le_of_ble_eq_true rfl) dX5_readGapIfAny_4 ⟨Nat.zero_le _, Nat.zero_le _⟩ (fun H locs hw => ?_)
  refine lv_if_ne (tgt := 12) hx hb dX5_readGapIfAny_7 (by decide) (fun c5 => ?_) (fun c5 => ?_)
  · have hf := it_n c5 hf
    refine lv_aload_n hx hb dX5_readGapIfAny_12 rfl (lv_at hl 0 rfl) ?_
    obtain ⟨q6, hq6, hf⟩ := bd hf
    refine g_Vi (As := []) (rest := []) ⟨hx, hb, hml, hown, hts⟩ (k_X5_pass hq6) (cwV 0 hts gX5_readGapIfAny_X5_pass rfl rfl rfl (by decide +kernel) ⟨Nat.le_of_ble_eq_true rfl, Nat.le_of_ble_eq_true rfl⟩) STC_ok hst hK hw (eC_len.trans eC_len.symm) eC_c7 rfl rfl hl.1 rfl (Nat.le_of_ble_eq_true rfl) dX5_readGapIfAny_13 ⟨Nat.zero_le _, Nat.zero_le _⟩ (fun H locs hw => ?_)
    have hw : Wo D ad (Aw ad 124 s.heap.size) (eC ad adE y m_out t_draft m_tlen a_bytes m_nsize m_drafted a_letters a_nlen t_texts q6.2 m_fkind m_fplace m_toks t_types a_starts a_tlens m_heard m_qsize m_wayKnown m_way m_qKnown m_lineKnown m_nodes m_lsize a_tails a_heads a_gaps a_least m_csize a_ctails a_cheads a_cgaps a_leftOut a_qrow a_line a_tsize t_word a_own a_oth a_fst a_snd a_plc) s.heap H locs := hw
    refine lv_pop hx hb dX5_readGapIfAny_16 rfl ?_
    refine lv_aload_n hx hb dX5_readGapIfAny_17 rfl (lv_at hl 0 rfl) ?_
    refine lv_aload_n hx hb dX5_readGapIfAny_18 rfl (lv_at hl 1 rfl) ?_
    refine lv_iconst (v := 1) hx hb dX5_readGapIfAny_19 (by decide) ?_
    obtain ⟨q7, hq7, hf⟩ := bd hf
    refine g_Vi (As := [.ref (ad (40 + p1)), .int 1]) (rest := []) ⟨hx, hb, hml, hown, hts⟩ (k_X5_readFirst hq7) (cwV 2 hts gX5_readGapIfAny_X5_readFirst rfl rfl rfl (by decide +kernel) ⟨Nat.le_of_ble_eq_true rfl, Nat.le_of_ble_eq_true rfl⟩) STC_ok hst hK hw (eC_len.trans eC_len.symm) eC_c7 rfl rfl hl.1 rfl (Nat.le_of_ble_eq_true rfl) dX5_readGapIfAny_20 ⟨Nat.zero_le _, Nat.zero_le _⟩ (fun H locs hw => ?_)
    have hw : Wo D ad (Aw ad 124 s.heap.size) (eC ad adE y m_out t_draft m_tlen a_bytes m_nsize m_drafted a_letters a_nlen t_texts q7.2.1 q7.2.2.1 q7.2.2.2.1 m_toks t_types a_starts a_tlens m_heard m_qsize m_wayKnown m_way m_qKnown m_lineKnown m_nodes m_lsize a_tails a_heads a_gaps a_least m_csize a_ctails a_cheads a_cgaps a_leftOut a_qrow a_line a_tsize t_word a_own a_oth q7.2.2.2.2 a_snd a_plc) s.heap H locs := hw
    obtain ⟨g8, hf⟩ := gB_some hf
    obtain rfl := so hf
    exact W.zret (v := q7.1) hx hb hr (gB_n g8) (fun t ht _ => g_end hw t ht) hw.2.2.2.2 dX5_readGapIfAny_23
  · have hf := it_p c5 hf
    refine lv_iconst (v := 1) hx hb dX5_readGapIfAny_10 (by decide) ?_
    obtain rfl := so hf
    exact W.zret (v := 1) hx hb hr rfl (fun t ht _ => g_end hw t ht) hw.2.2.2.2 dX5_readGapIfAny_11
set_option maxHeartbeats 4000000 in
theorem k_X5_readGapIfAny {l : Launch} {D : va_G} {ad : Nat → Nat} {y : Nat → ClassId} {adE adK adV : Nat → Nat} {tkA swA : Nat} {m_out : Int32} {t_draft : Nat} {m_tlen : Int32} {a_bytes : Nat → Int32} {m_nsize : Int32} {m_drafted : Int32} {a_letters : Nat → Int32} {a_nlen : Nat → Int32} {t_texts : Nat → Nat} {m_here : Int32} {m_fkind : Int32} {m_fplace : Int32} {m_toks : Int32} {t_types : Nat → Nat} {a_starts : Nat → Int32} {a_tlens : Nat → Int32} {m_heard : Int32} {m_qsize : Int32} {m_wayKnown : Int32} {m_way : Int32} {m_qKnown : Int32} {m_lineKnown : Int32} {m_nodes : Int32} {m_lsize : Int32} {a_tails : Nat → Int32} {a_heads : Nat → Int32} {a_gaps : Nat → Int32} {a_least : Nat → Int32} {m_csize : Int32} {a_ctails : Nat → Int32} {a_cheads : Nat → Int32} {a_cgaps : Nat → Int32} {a_leftOut : Nat → Int32} {a_qrow : Nat → Int32} {a_line : Nat → Int32} {a_tsize : Nat → Int32} {t_word : Nat → Nat} {a_own : Nat → Int32} {a_oth : Nat → Int32} {a_fst : Nat → Int32} {a_snd : Nat → Int32} {a_plc : Nat → Int32} {p1 : Nat} {res : Int32 × Int32 × Int32 × Int32 × (Nat → Int32)} (hf : f_X5_readGapIfAny a_bytes m_here m_fkind m_fplace t_types a_starts a_tlens a_fst p1 = some res) : CTi l yX5_readGapIfAny wsX5_readGapIfAny rm_X5_readGapIfAny D ad 124 (tyL y) (STC ad adE adK adV tkA swA) (eC ad adE y m_out t_draft m_tlen a_bytes m_nsize m_drafted a_letters a_nlen t_texts m_here m_fkind m_fplace m_toks t_types a_starts a_tlens m_heard m_qsize m_wayKnown m_way m_qKnown m_lineKnown m_nodes m_lsize a_tails a_heads a_gaps a_least m_csize a_ctails a_cheads a_cgaps a_leftOut a_qrow a_line a_tsize t_word a_own a_oth a_fst a_snd a_plc) (eC ad adE y m_out t_draft m_tlen a_bytes m_nsize m_drafted a_letters a_nlen t_texts res.2.1 res.2.2.1 res.2.2.2.1 m_toks t_types a_starts a_tlens m_heard m_qsize m_wayKnown m_way m_qKnown m_lineKnown m_nodes m_lsize a_tails a_heads a_gaps a_least m_csize a_ctails a_cheads a_cgaps a_leftOut a_qrow a_line a_tsize t_word a_own a_oth res.2.2.2.2 a_snd a_plc) [.ref (ad 7), .ref (ad (40 + p1))] res.1 := by
  intro sz
  refine Met.ofW (cc := cX5_readGapIfAny) (maxL := 2) (ret := (some .boolean)) (by decide) rfl ?_
  intro p e s m args below meth c s₁ B hml hv
  obtain ⟨rfl, hsz, hP, hK, hD0, hst⟩ := hv
  subst hsz
  have C0 : CXT wsX5_readGapIfAny cX5_readGapIfAny RX5 2 (some .boolean) D (tyL y) (STC ad adE adK adV tkA swA) p s m ([.ref (ad 7), .ref (ad (40 + p1))] : List Value).toArray meth c := ⟨B.exec, B.bytes, B.returns, hml, findClass_of_methodNamed B.named, atoms_spec (ws := wsX5_readGapIfAny) B.pre, B.notSynchronized, hK, hst⟩
  have hw := g_start (n := 124) eC_len hP hD0
  have hl := lv_entry ([.ref (ad 7), .ref (ad (40 + p1))]) (n := 2) (Nat.le_of_ble_eq_true rfl)
  rw [lg_entry_eq]
  generalize (lg_sl ([.ref (ad 7), .ref (ad (40 + p1))]) ++ List.replicate (2 - (lg_sl ([.ref (ad 7), .ref (ad (40 + p1))])).length) Slot.unset).toArray = ls at hl ⊢
  have hl : lv_has ls 2 [(0, .ref (ad 7)), (1, .ref (ad (40 + p1)))] := hl
  exact ke_X5_readGapIfAny C0 hf hw hl
abbrev rm_X5_readOther : Room := { frames := 3, cells := 0, slots := 0, locals := 73 }
abbrev QM_X5_readOther (below : List Frame) (args : Array Value) (s : State) (D : va_G) (ad : Nat → Nat) (y : Nat → ClassId) (adE : Nat → Nat) (m_out : Int32) (t_draft : Nat) (m_tlen : Int32) (a_bytes : Nat → Int32) (m_nsize : Int32) (t_texts : Nat → Nat) (m_toks : Int32) (t_types : Nat → Nat) (a_starts : Nat → Int32) (a_tlens : Nat → Int32) (m_heard : Int32) (m_qsize : Int32) (m_wayKnown : Int32) (m_way : Int32) (m_qKnown : Int32) (m_lineKnown : Int32) (m_nodes : Int32) (m_lsize : Int32) (a_tails : Nat → Int32) (a_heads : Nat → Int32) (a_gaps : Nat → Int32) (a_least : Nat → Int32) (m_csize : Int32) (a_ctails : Nat → Int32) (a_cheads : Nat → Int32) (a_cgaps : Nat → Int32) (a_leftOut : Nat → Int32) (a_qrow : Nat → Int32) (a_line : Nat → Int32) (a_tsize : Nat → Int32) (t_word : Nat → Nat) (a_own : Nat → Int32) (a_fst : Nat → Int32) (a_snd : Nat → Int32) (a_plc : Nat → Int32) (res : Int32 × Int32 × (Nat → Int32) × (Nat → Int32) × Int32 × Int32 × Int32 × (Nat → Int32)) : State → Prop := MQ below (va_Qi (fun x (_ : Unit) => x = res.1) (fun _ t => va_P D vwCl (wls ad (eC ad adE y m_out t_draft m_tlen a_bytes m_nsize res.2.1 res.2.2.1 res.2.2.2.1 t_texts res.2.2.2.2.1 res.2.2.2.2.2.1 res.2.2.2.2.2.2.1 m_toks t_types a_starts a_tlens m_heard m_qsize m_wayKnown m_way m_qKnown m_lineKnown m_nodes m_lsize a_tails a_heads a_gaps a_least m_csize a_ctails a_cheads a_cgaps a_leftOut a_qrow a_line a_tsize t_word a_own res.2.2.2.2.2.2.2 a_fst a_snd a_plc)) t.heap) (Aw ad 124 s.heap.size)) args s 0 0 (Aw ad 124 s.heap.size)
set_option maxHeartbeats 4000000 in
set_option maxRecDepth 100000 in
theorem ke_X5_readOther {p : Program} {l : Launch} {e : Env} {s : State} {m : MethodId} {args : Array Value} {below : List Frame} {meth : Method} {c : Code} {D : va_G} {ad : Nat → Nat} {y : Nat → ClassId} {adE adK adV : Nat → Nat} {tkA swA : Nat} (C0 : CXT wsX5_readOther cX5_readOther RX5 2 (some .boolean) D (tyL y) (STC ad adE adK adV tkA swA) p s m args meth c) {m_out : Int32} {t_draft : Nat} {m_tlen : Int32} {a_bytes : Nat → Int32} {m_nsize : Int32} {m_drafted : Int32} {a_letters : Nat → Int32} {a_nlen : Nat → Int32} {t_texts : Nat → Nat} {m_here : Int32} {m_fkind : Int32} {m_fplace : Int32} {m_toks : Int32} {t_types : Nat → Nat} {a_starts : Nat → Int32} {a_tlens : Nat → Int32} {m_heard : Int32} {m_qsize : Int32} {m_wayKnown : Int32} {m_way : Int32} {m_qKnown : Int32} {m_lineKnown : Int32} {m_nodes : Int32} {m_lsize : Int32} {a_tails : Nat → Int32} {a_heads : Nat → Int32} {a_gaps : Nat → Int32} {a_least : Nat → Int32} {m_csize : Int32} {a_ctails : Nat → Int32} {a_cheads : Nat → Int32} {a_cgaps : Nat → Int32} {a_leftOut : Nat → Int32} {a_qrow : Nat → Int32} {a_line : Nat → Int32} {a_tsize : Nat → Int32} {t_word : Nat → Nat} {a_own : Nat → Int32} {a_oth : Nat → Int32} {a_fst : Nat → Int32} {a_snd : Nat → Int32} {a_plc : Nat → Int32} {p1 : Nat} {res : Int32 × Int32 × (Nat → Int32) × (Nat → Int32) × Int32 × Int32 × Int32 × (Nat → Int32)} (hf : f_X5_readOther a_bytes m_drafted a_letters a_nlen m_here m_fkind m_fplace t_types a_starts a_tlens a_own a_oth p1 = some res) {H : Heap} {locs : List Loc} {ls : Array Slot} (hw : Wo D ad (Aw ad 124 s.heap.size) (eC ad adE y m_out t_draft m_tlen a_bytes m_nsize m_drafted a_letters a_nlen t_texts m_here m_fkind m_fplace m_toks t_types a_starts a_tlens m_heard m_qsize m_wayKnown m_way m_qKnown m_lineKnown m_nodes m_lsize a_tails a_heads a_gaps a_least m_csize a_ctails a_cheads a_cgaps a_leftOut a_qrow a_line a_tsize t_word a_own a_oth a_fst a_snd a_plc) s.heap H locs) (hl : lv_has ls 2 [(0, .ref (ad 7)), (1, .ref (ad (40 + p1)))]) : W p l e rm_X5_readOther s m args below meth c H locs 0 0 (QM_X5_readOther below args s D ad y adE (m_out) (t_draft) (m_tlen) (a_bytes) (m_nsize) (t_texts) (m_toks) (t_types) (a_starts) (a_tlens) (m_heard) (m_qsize) (m_wayKnown) (m_way) (m_qKnown) (m_lineKnown) (m_nodes) (m_lsize) (a_tails) (a_heads) (a_gaps) (a_least) (m_csize) (a_ctails) (a_cheads) (a_cgaps) (a_leftOut) (a_qrow) (a_line) (a_tsize) (t_word) (a_own) (a_fst) (a_snd) (a_plc) res) (F0 m 0 ls []) := by
  obtain ⟨hx, hb, hr, hml, hown, hts, hlocks, hK, hst⟩ := id C0
  have L_90 := hts (.fieldLink RX5 90 "CaseOrder$Token" "NAME" "LCaseOrder$Token;") (by decide +kernel)
  have i_X5 : ∀ w ∈ u_ws RX5 TX5 6, w ∈ wsX5_readOther := by decide +kernel
  have L_32 := hts (.fieldLink RX5 32 "CaseOrder$Reader" "names" "LCaseOrder$Names;") (by decide +kernel)
  have L_28 := hts (.fieldLink RX5 28 "CaseOrder$Reader" "tape" "LCaseOrder$Tape;") (by decide +kernel)
  have L_12 := hts (.fieldLink RX5 12 "CaseOrder$Reader" "tokens" "LCaseOrder$Tokens;") (by decide +kernel)
  have i_X10 : ∀ w ∈ u_ws RX10 TX10 4, w ∈ wsX5_readOther := by decide +kernel
  have L_18 := hts (.fieldLink RX5 18 "CaseOrder$Reader" "here" "I") (by decide +kernel)
  have i_X6 : ∀ w ∈ u_ws RX6 TX6 6, w ∈ wsX5_readOther := by decide +kernel
  have L_144 := hts (.fieldLink RX5 144 "CaseOrder$Saying" "other" "I") (by decide +kernel)
  have L_147 := hts (.fieldLink RX5 147 "CaseOrder$Saying" "own" "I") (by decide +kernel)
  unfold f_X5_readOther at hf
  refine lv_aload_n hx hb dX5_readOther_0 rfl (lv_at hl 0 rfl) ?_
  refine va_gets hx hb (sC_tok 8 (by decide) rfl hst) hw.2.2 hown L_90 (fun _ h => h) dX5_readOther_1 ?_
  obtain ⟨q13, hq13, hf⟩ := bd hf
  refine g_Vi (As := [.ref (adE 8)]) (rest := []) ⟨hx, hb, hml, hown, hts⟩ (k_X5_is hq13) (cwV 1 hts gX5_readOther_X5_is rfl rfl rfl (by decide +kernel) ⟨Nat.le_of_ble_eq_true rfl, Nat.le_of_ble_eq_true rfl⟩) STC_ok hst hK hw (eC_len.trans eC_len.symm) eC_c7 rfl rfl hl.1 rfl (Nat.le_of_ble_eq_true rfl) dX5_readOther_4 ⟨Nat.zero_le _, Nat.zero_le _⟩ (fun H locs hw => ?_)
  refine lv_if_ne (tgt := 16) hx hb dX5_readOther_7 (by decide) (fun c14 => ?_) (fun c14 => ?_)
  · have hf := it_n c14 hf
    refine lv_aload_n hx hb dX5_readOther_16 rfl (lv_at hl 1 rfl) ?_
    refine lv_aload_n hx hb dX5_readOther_17 rfl (lv_at hl 0 rfl) ?_
    refine g_get hx hb hts i_X5 hown hK hw 7 eC_c7 rfl 2 (by decide) L_32 (fun _ h => h) rfl dX5_readOther_18 ?_
    refine lv_aload_n hx hb dX5_readOther_21 rfl (lv_at hl 0 rfl) ?_
    refine g_get hx hb hts i_X5 hown hK hw 7 eC_c7 rfl 1 (by decide) L_28 (fun _ h => h) rfl dX5_readOther_22 ?_
    refine lv_aload_n hx hb dX5_readOther_25 rfl (lv_at hl 0 rfl) ?_
    refine g_get hx hb hts i_X5 hown hK hw 7 eC_c7 rfl 0 (by decide) L_12 (fun _ h => h) rfl dX5_readOther_26 ?_
    refine g_getN hx hb hts i_X10 hown hK hw 8 eC_c8 rfl 1 (by decide) (sC_nw (w := .fieldLinkNest RX5 86 "CaseOrder$Tokens" "starts" "[I" "CaseOrder") (by decide) rfl hst) (fun _ h => h) rfl dX5_readOther_29 ?_
    refine lv_aload_n hx hb dX5_readOther_32 rfl (lv_at hl 0 rfl) ?_
    refine g_get hx hb hts i_X5 hown hK hw 7 eC_c7 rfl 3 (by decide) L_18 (fun _ h => h) rfl dX5_readOther_33 ?_
    obtain ⟨g15, hf⟩ := gIn_some hf
    refine g_iald hx hb hK hw 10 1 eC_c10 rfl g15 dX5_readOther_36 ?_
    refine lv_aload_n hx hb dX5_readOther_37 rfl (lv_at hl 0 rfl) ?_
    refine g_get hx hb hts i_X5 hown hK hw 7 eC_c7 rfl 0 (by decide) L_12 (fun _ h => h) rfl dX5_readOther_38 ?_
    refine g_getN hx hb hts i_X10 hown hK hw 8 eC_c8 rfl 2 (by decide) (sC_nw (w := .fieldLinkNest RX5 93 "CaseOrder$Tokens" "lengths" "[I" "CaseOrder") (by decide) rfl hst) (fun _ h => h) rfl dX5_readOther_41 ?_
    refine lv_aload_n hx hb dX5_readOther_44 rfl (lv_at hl 0 rfl) ?_
    refine g_get hx hb hts i_X5 hown hK hw 7 eC_c7 rfl 3 (by decide) L_18 (fun _ h => h) rfl dX5_readOther_45 ?_
    obtain ⟨g16, hf⟩ := gIn_some hf
    refine g_iald hx hb hK hw 11 1 eC_c11 rfl g16 dX5_readOther_48 ?_
    obtain ⟨q17, hq17, hf⟩ := bd hf
    refine g_Vi (As := [.ref (ad 1), .int (a_starts (Int32.toNatClampNeg m_here)), .int (a_tlens (Int32.toNatClampNeg m_here))]) (rest := [.ref (ad (40 + p1))]) ⟨hx, hb, hml, hown, hts⟩ (k_X3_findOrDraft hq17) (cwV 3 hts gX5_readOther_X3_findOrDraft rfl rfl rfl (by decide +kernel) ⟨Nat.le_of_ble_eq_true rfl, Nat.le_of_ble_eq_true rfl⟩) STC_ok hst hK hw (eC_len.trans eC_len.symm) eC_c3 rfl rfl hl.1 rfl (Nat.le_of_ble_eq_true rfl) dX5_readOther_49 ⟨Nat.zero_le _, Nat.zero_le _⟩ (fun H locs hw => ?_)
    have hw : Wo D ad (Aw ad 124 s.heap.size) (eC ad adE y m_out t_draft m_tlen a_bytes m_nsize q17.2.1 q17.2.2.1 q17.2.2.2 t_texts m_here m_fkind m_fplace m_toks t_types a_starts a_tlens m_heard m_qsize m_wayKnown m_way m_qKnown m_lineKnown m_nodes m_lsize a_tails a_heads a_gaps a_least m_csize a_ctails a_cheads a_cgaps a_leftOut a_qrow a_line a_tsize t_word a_own a_oth a_fst a_snd a_plc) s.heap H locs := hw
    obtain ⟨g18, hf⟩ := gN_some hf
    refine g_put (ty := .int) hx hb hts i_X6 tyX6 tyX6_ok nmX6 hown hK hw (40 + p1) (eC_S g18) rfl 2 (by decide) L_144 (fun _ h => h) rfl (by decide +kernel) rfl rfl (Nat.le_of_ble_eq_true rfl) dX5_readOther_52 (fun H locs hw => ?_)
    rw [eC_sS2 g18] at hw
    have hw : Wo D ad (Aw ad 124 s.heap.size) (eC ad adE y m_out t_draft m_tlen a_bytes m_nsize q17.2.1 q17.2.2.1 q17.2.2.2 t_texts m_here m_fkind m_fplace m_toks t_types a_starts a_tlens m_heard m_qsize m_wayKnown m_way m_qKnown m_lineKnown m_nodes m_lsize a_tails a_heads a_gaps a_least m_csize a_ctails a_cheads a_cgaps a_leftOut a_qrow a_line a_tsize t_word a_own (upd a_oth p1 q17.1) a_fst a_snd a_plc) s.heap H locs := hw
    refine lv_aload_n hx hb dX5_readOther_55 rfl (lv_at hl 1 rfl) ?_
    refine g_get hx hb hts i_X6 hown hK hw (40 + p1) (eC_S g18) rfl 2 (by decide) L_144 (fun _ h => h) rfl dX5_readOther_56 ?_
    refine lv_aload_n hx hb dX5_readOther_59 rfl (lv_at hl 1 rfl) ?_
    refine g_get hx hb hts i_X6 hown hK hw (40 + p1) (eC_S g18) rfl 1 (by decide) L_147 (fun _ h => h) rfl dX5_readOther_60 ?_
    refine lv_icmp_ne (tgt := 72) hx hb dX5_readOther_63 (by decide) (fun c19 => ?_) (fun c19 => ?_)
    · have hf := it_n c19 hf
      refine lv_aload_n hx hb dX5_readOther_72 rfl (lv_at hl 1 rfl) ?_
      obtain ⟨g20, hf⟩ := gN_some hf
      refine g_get hx hb hts i_X6 hown hK hw (40 + p1) (eC_S g20) rfl 2 (by decide) L_144 (fun _ h => h) rfl dX5_readOther_73 ?_
      refine lv_iconst (v := (-1)) hx hb dX5_readOther_76 (by decide) ?_
      refine lv_icmp_ne (tgt := 88) hx hb dX5_readOther_77 (by decide) (fun c21 => ?_) (fun c21 => ?_)
      · have hf := it_n c21 hf
        refine lv_aload_n hx hb dX5_readOther_88 rfl (lv_at hl 0 rfl) ?_
        obtain ⟨q22, hq22, hf⟩ := bd hf
        refine g_Vi (As := []) (rest := []) ⟨hx, hb, hml, hown, hts⟩ (k_X5_pass hq22) (cwV 0 hts gX5_readOther_X5_pass rfl rfl rfl (by decide +kernel) ⟨Nat.le_of_ble_eq_true rfl, Nat.le_of_ble_eq_true rfl⟩) STC_ok hst hK hw (eC_len.trans eC_len.symm) eC_c7 rfl rfl hl.1 rfl (Nat.le_of_ble_eq_true rfl) dX5_readOther_89 ⟨Nat.zero_le _, Nat.zero_le _⟩ (fun H locs hw => ?_)
        have hw : Wo D ad (Aw ad 124 s.heap.size) (eC ad adE y m_out t_draft m_tlen a_bytes m_nsize q17.2.1 q17.2.2.1 q17.2.2.2 t_texts q22.2 m_fkind m_fplace m_toks t_types a_starts a_tlens m_heard m_qsize m_wayKnown m_way m_qKnown m_lineKnown m_nodes m_lsize a_tails a_heads a_gaps a_least m_csize a_ctails a_cheads a_cgaps a_leftOut a_qrow a_line a_tsize t_word a_own (upd a_oth p1 q17.1) a_fst a_snd a_plc) s.heap H locs := hw
        obtain ⟨g23, hf⟩ := gB_some hf
        obtain rfl := so hf
        exact W.zret (v := q22.1) hx hb hr (gB_n g23) (fun t ht _ => g_end hw t ht) hw.2.2.2.2 dX5_readOther_92
      · have hf := it_p c21 hf
        refine lv_aload_n hx hb dX5_readOther_80 rfl (lv_at hl 0 rfl) ?_
        refine lv_iconst (v := 4) hx hb dX5_readOther_81 (by decide) ?_
        obtain ⟨q24, hq24, hf⟩ := bd hf
        refine g_Vi (As := [.int 4]) (rest := []) ⟨hx, hb, hml, hown, hts⟩ (k_X5_refuse hq24) (cwV 1 hts gX5_readOther_X5_refuse rfl rfl rfl (by decide +kernel) ⟨Nat.le_of_ble_eq_true rfl, Nat.le_of_ble_eq_true rfl⟩) STC_ok hst hK hw (eC_len.trans eC_len.symm) eC_c7 rfl rfl hl.1 rfl (Nat.le_of_ble_eq_true rfl) dX5_readOther_82 ⟨Nat.zero_le _, Nat.zero_le _⟩ (fun H locs hw => ?_)
        have hw : Wo D ad (Aw ad 124 s.heap.size) (eC ad adE y m_out t_draft m_tlen a_bytes m_nsize q17.2.1 q17.2.2.1 q17.2.2.2 t_texts m_here q24.2.1 q24.2.2 m_toks t_types a_starts a_tlens m_heard m_qsize m_wayKnown m_way m_qKnown m_lineKnown m_nodes m_lsize a_tails a_heads a_gaps a_least m_csize a_ctails a_cheads a_cgaps a_leftOut a_qrow a_line a_tsize t_word a_own (upd a_oth p1 q17.1) a_fst a_snd a_plc) s.heap H locs := hw
        refine lv_goto (tgt := 92) hx hb dX5_readOther_85 (by decide) ?_
        obtain ⟨g25, hf⟩ := gB_some hf
        obtain rfl := so hf
        exact W.zret (v := q24.1) hx hb hr (gB_n g25) (fun t ht _ => g_end hw t ht) hw.2.2.2.2 dX5_readOther_92
    · have hf := it_p c19 hf
      refine lv_aload_n hx hb dX5_readOther_66 rfl (lv_at hl 0 rfl) ?_
      refine lv_iconst (v := 3) hx hb dX5_readOther_67 (by decide) ?_
      obtain ⟨q26, hq26, hf⟩ := bd hf
      refine g_Vi (As := [.int 3]) (rest := []) ⟨hx, hb, hml, hown, hts⟩ (k_X5_refuse hq26) (cwV 1 hts gX5_readOther_X5_refuse rfl rfl rfl (by decide +kernel) ⟨Nat.le_of_ble_eq_true rfl, Nat.le_of_ble_eq_true rfl⟩) STC_ok hst hK hw (eC_len.trans eC_len.symm) eC_c7 rfl rfl hl.1 rfl (Nat.le_of_ble_eq_true rfl) dX5_readOther_68 ⟨Nat.zero_le _, Nat.zero_le _⟩ (fun H locs hw => ?_)
      have hw : Wo D ad (Aw ad 124 s.heap.size) (eC ad adE y m_out t_draft m_tlen a_bytes m_nsize q17.2.1 q17.2.2.1 q17.2.2.2 t_texts m_here q26.2.1 q26.2.2 m_toks t_types a_starts a_tlens m_heard m_qsize m_wayKnown m_way m_qKnown m_lineKnown m_nodes m_lsize a_tails a_heads a_gaps a_least m_csize a_ctails a_cheads a_cgaps a_leftOut a_qrow a_line a_tsize t_word a_own (upd a_oth p1 q17.1) a_fst a_snd a_plc) s.heap H locs := hw
      obtain ⟨g27, hf⟩ := gB_some hf
      obtain rfl := so hf
      exact W.zret (v := q26.1) hx hb hr (gB_n g27) (fun t ht _ => g_end hw t ht) hw.2.2.2.2 dX5_readOther_71
  · have hf := it_p c14 hf
    refine lv_aload_n hx hb dX5_readOther_10 rfl (lv_at hl 0 rfl) ?_
    refine lv_iconst (v := 1) hx hb dX5_readOther_11 (by decide) ?_
    obtain ⟨q28, hq28, hf⟩ := bd hf
    refine g_Vi (As := [.int 1]) (rest := []) ⟨hx, hb, hml, hown, hts⟩ (k_X5_refuse hq28) (cwV 1 hts gX5_readOther_X5_refuse rfl rfl rfl (by decide +kernel) ⟨Nat.le_of_ble_eq_true rfl, Nat.le_of_ble_eq_true rfl⟩) STC_ok hst hK hw (eC_len.trans eC_len.symm) eC_c7 rfl rfl hl.1 rfl (Nat.le_of_ble_eq_true rfl) dX5_readOther_12 ⟨Nat.zero_le _, Nat.zero_le _⟩ (fun H locs hw => ?_)
    have hw : Wo D ad (Aw ad 124 s.heap.size) (eC ad adE y m_out t_draft m_tlen a_bytes m_nsize m_drafted a_letters a_nlen t_texts m_here q28.2.1 q28.2.2 m_toks t_types a_starts a_tlens m_heard m_qsize m_wayKnown m_way m_qKnown m_lineKnown m_nodes m_lsize a_tails a_heads a_gaps a_least m_csize a_ctails a_cheads a_cgaps a_leftOut a_qrow a_line a_tsize t_word a_own a_oth a_fst a_snd a_plc) s.heap H locs := hw
    obtain ⟨g29, hf⟩ := gB_some hf
    obtain rfl := so hf
    exact W.zret (v := q28.1) hx hb hr (gB_n g29) (fun t ht _ => g_end hw t ht) hw.2.2.2.2 dX5_readOther_15
set_option maxHeartbeats 4000000 in
theorem k_X5_readOther {l : Launch} {D : va_G} {ad : Nat → Nat} {y : Nat → ClassId} {adE adK adV : Nat → Nat} {tkA swA : Nat} {m_out : Int32} {t_draft : Nat} {m_tlen : Int32} {a_bytes : Nat → Int32} {m_nsize : Int32} {m_drafted : Int32} {a_letters : Nat → Int32} {a_nlen : Nat → Int32} {t_texts : Nat → Nat} {m_here : Int32} {m_fkind : Int32} {m_fplace : Int32} {m_toks : Int32} {t_types : Nat → Nat} {a_starts : Nat → Int32} {a_tlens : Nat → Int32} {m_heard : Int32} {m_qsize : Int32} {m_wayKnown : Int32} {m_way : Int32} {m_qKnown : Int32} {m_lineKnown : Int32} {m_nodes : Int32} {m_lsize : Int32} {a_tails : Nat → Int32} {a_heads : Nat → Int32} {a_gaps : Nat → Int32} {a_least : Nat → Int32} {m_csize : Int32} {a_ctails : Nat → Int32} {a_cheads : Nat → Int32} {a_cgaps : Nat → Int32} {a_leftOut : Nat → Int32} {a_qrow : Nat → Int32} {a_line : Nat → Int32} {a_tsize : Nat → Int32} {t_word : Nat → Nat} {a_own : Nat → Int32} {a_oth : Nat → Int32} {a_fst : Nat → Int32} {a_snd : Nat → Int32} {a_plc : Nat → Int32} {p1 : Nat} {res : Int32 × Int32 × (Nat → Int32) × (Nat → Int32) × Int32 × Int32 × Int32 × (Nat → Int32)} (hf : f_X5_readOther a_bytes m_drafted a_letters a_nlen m_here m_fkind m_fplace t_types a_starts a_tlens a_own a_oth p1 = some res) : CTi l yX5_readOther wsX5_readOther rm_X5_readOther D ad 124 (tyL y) (STC ad adE adK adV tkA swA) (eC ad adE y m_out t_draft m_tlen a_bytes m_nsize m_drafted a_letters a_nlen t_texts m_here m_fkind m_fplace m_toks t_types a_starts a_tlens m_heard m_qsize m_wayKnown m_way m_qKnown m_lineKnown m_nodes m_lsize a_tails a_heads a_gaps a_least m_csize a_ctails a_cheads a_cgaps a_leftOut a_qrow a_line a_tsize t_word a_own a_oth a_fst a_snd a_plc) (eC ad adE y m_out t_draft m_tlen a_bytes m_nsize res.2.1 res.2.2.1 res.2.2.2.1 t_texts res.2.2.2.2.1 res.2.2.2.2.2.1 res.2.2.2.2.2.2.1 m_toks t_types a_starts a_tlens m_heard m_qsize m_wayKnown m_way m_qKnown m_lineKnown m_nodes m_lsize a_tails a_heads a_gaps a_least m_csize a_ctails a_cheads a_cgaps a_leftOut a_qrow a_line a_tsize t_word a_own res.2.2.2.2.2.2.2 a_fst a_snd a_plc) [.ref (ad 7), .ref (ad (40 + p1))] res.1 := by
  intro sz
  refine Met.ofW (cc := cX5_readOther) (maxL := 2) (ret := (some .boolean)) (by decide) rfl ?_
  intro p e s m args below meth c s₁ B hml hv
  obtain ⟨rfl, hsz, hP, hK, hD0, hst⟩ := hv
  subst hsz
  have C0 : CXT wsX5_readOther cX5_readOther RX5 2 (some .boolean) D (tyL y) (STC ad adE adK adV tkA swA) p s m ([.ref (ad 7), .ref (ad (40 + p1))] : List Value).toArray meth c := ⟨B.exec, B.bytes, B.returns, hml, findClass_of_methodNamed B.named, atoms_spec (ws := wsX5_readOther) B.pre, B.notSynchronized, hK, hst⟩
  have hw := g_start (n := 124) eC_len hP hD0
  have hl := lv_entry ([.ref (ad 7), .ref (ad (40 + p1))]) (n := 2) (Nat.le_of_ble_eq_true rfl)
  rw [lg_entry_eq]
  generalize (lg_sl ([.ref (ad 7), .ref (ad (40 + p1))]) ++ List.replicate (2 - (lg_sl ([.ref (ad 7), .ref (ad (40 + p1))])).length) Slot.unset).toArray = ls at hl ⊢
  have hl : lv_has ls 2 [(0, .ref (ad 7)), (1, .ref (ad (40 + p1)))] := hl
  exact ke_X5_readOther C0 hf hw hl
abbrev rm_X5_readSecond : Room := { frames := 2, cells := 0, slots := 0, locals := 44 }
abbrev QM_X5_readSecond (below : List Frame) (args : Array Value) (s : State) (D : va_G) (ad : Nat → Nat) (y : Nat → ClassId) (adE : Nat → Nat) (m_out : Int32) (t_draft : Nat) (m_tlen : Int32) (a_bytes : Nat → Int32) (m_nsize : Int32) (m_drafted : Int32) (a_letters : Nat → Int32) (a_nlen : Nat → Int32) (t_texts : Nat → Nat) (m_toks : Int32) (t_types : Nat → Nat) (a_starts : Nat → Int32) (a_tlens : Nat → Int32) (m_heard : Int32) (m_qsize : Int32) (m_wayKnown : Int32) (m_way : Int32) (m_qKnown : Int32) (m_lineKnown : Int32) (m_nodes : Int32) (m_lsize : Int32) (a_tails : Nat → Int32) (a_heads : Nat → Int32) (a_gaps : Nat → Int32) (a_least : Nat → Int32) (m_csize : Int32) (a_ctails : Nat → Int32) (a_cheads : Nat → Int32) (a_cgaps : Nat → Int32) (a_leftOut : Nat → Int32) (a_qrow : Nat → Int32) (a_line : Nat → Int32) (a_tsize : Nat → Int32) (t_word : Nat → Nat) (a_own : Nat → Int32) (a_oth : Nat → Int32) (a_fst : Nat → Int32) (a_plc : Nat → Int32) (res : Int32 × Int32 × Int32 × Int32 × (Nat → Int32)) : State → Prop := MQ below (va_Qi (fun x (_ : Unit) => x = res.1) (fun _ t => va_P D vwCl (wls ad (eC ad adE y m_out t_draft m_tlen a_bytes m_nsize m_drafted a_letters a_nlen t_texts res.2.1 res.2.2.1 res.2.2.2.1 m_toks t_types a_starts a_tlens m_heard m_qsize m_wayKnown m_way m_qKnown m_lineKnown m_nodes m_lsize a_tails a_heads a_gaps a_least m_csize a_ctails a_cheads a_cgaps a_leftOut a_qrow a_line a_tsize t_word a_own a_oth a_fst res.2.2.2.2 a_plc)) t.heap) (Aw ad 124 s.heap.size)) args s 0 0 (Aw ad 124 s.heap.size)
set_option maxHeartbeats 4000000 in
set_option maxRecDepth 100000 in
theorem ke_X5_readSecond {p : Program} {l : Launch} {e : Env} {s : State} {m : MethodId} {args : Array Value} {below : List Frame} {meth : Method} {c : Code} {D : va_G} {ad : Nat → Nat} {y : Nat → ClassId} {adE adK adV : Nat → Nat} {tkA swA : Nat} (C0 : CXT wsX5_readSecond cX5_readSecond RX5 2 (some .boolean) D (tyL y) (STC ad adE adK adV tkA swA) p s m args meth c) {m_out : Int32} {t_draft : Nat} {m_tlen : Int32} {a_bytes : Nat → Int32} {m_nsize : Int32} {m_drafted : Int32} {a_letters : Nat → Int32} {a_nlen : Nat → Int32} {t_texts : Nat → Nat} {m_here : Int32} {m_fkind : Int32} {m_fplace : Int32} {m_toks : Int32} {t_types : Nat → Nat} {a_starts : Nat → Int32} {a_tlens : Nat → Int32} {m_heard : Int32} {m_qsize : Int32} {m_wayKnown : Int32} {m_way : Int32} {m_qKnown : Int32} {m_lineKnown : Int32} {m_nodes : Int32} {m_lsize : Int32} {a_tails : Nat → Int32} {a_heads : Nat → Int32} {a_gaps : Nat → Int32} {a_least : Nat → Int32} {m_csize : Int32} {a_ctails : Nat → Int32} {a_cheads : Nat → Int32} {a_cgaps : Nat → Int32} {a_leftOut : Nat → Int32} {a_qrow : Nat → Int32} {a_line : Nat → Int32} {a_tsize : Nat → Int32} {t_word : Nat → Nat} {a_own : Nat → Int32} {a_oth : Nat → Int32} {a_fst : Nat → Int32} {a_snd : Nat → Int32} {a_plc : Nat → Int32} {p1 : Nat} {res : Int32 × Int32 × Int32 × Int32 × (Nat → Int32)} (hf : f_X5_readSecond a_bytes m_here m_fkind m_fplace t_types a_starts a_tlens a_fst a_snd p1 = some res) {H : Heap} {locs : List Loc} {ls : Array Slot} (hw : Wo D ad (Aw ad 124 s.heap.size) (eC ad adE y m_out t_draft m_tlen a_bytes m_nsize m_drafted a_letters a_nlen t_texts m_here m_fkind m_fplace m_toks t_types a_starts a_tlens m_heard m_qsize m_wayKnown m_way m_qKnown m_lineKnown m_nodes m_lsize a_tails a_heads a_gaps a_least m_csize a_ctails a_cheads a_cgaps a_leftOut a_qrow a_line a_tsize t_word a_own a_oth a_fst a_snd a_plc) s.heap H locs) (hl : lv_has ls 2 [(0, .ref (ad 7)), (1, .ref (ad (40 + p1)))]) : W p l e rm_X5_readSecond s m args below meth c H locs 0 0 (QM_X5_readSecond below args s D ad y adE (m_out) (t_draft) (m_tlen) (a_bytes) (m_nsize) (m_drafted) (a_letters) (a_nlen) (t_texts) (m_toks) (t_types) (a_starts) (a_tlens) (m_heard) (m_qsize) (m_wayKnown) (m_way) (m_qKnown) (m_lineKnown) (m_nodes) (m_lsize) (a_tails) (a_heads) (a_gaps) (a_least) (m_csize) (a_ctails) (a_cheads) (a_cgaps) (a_leftOut) (a_qrow) (a_line) (a_tsize) (t_word) (a_own) (a_oth) (a_fst) (a_plc) res) (F0 m 0 ls []) := by
  obtain ⟨hx, hb, hr, hml, hown, hts, hlocks, hK, hst⟩ := id C0
  have L_160 := hts (.fieldLink RX5 160 "CaseOrder$Token" "TO" "LCaseOrder$Token;") (by decide +kernel)
  have i_X6 : ∀ w ∈ u_ws RX6 TX6 6, w ∈ wsX5_readSecond := by decide +kernel
  have L_157 := hts (.fieldLink RX5 157 "CaseOrder$Saying" "first" "I") (by decide +kernel)
  have L_163 := hts (.fieldLink RX5 163 "CaseOrder$Saying" "second" "I") (by decide +kernel)
  unfold f_X5_readSecond at hf
  refine lv_aload_n hx hb dX5_readSecond_0 rfl (lv_at hl 0 rfl) ?_
  refine va_gets hx hb (sC_tok 7 (by decide) rfl hst) hw.2.2 hown L_160 (fun _ h => h) dX5_readSecond_1 ?_
  obtain ⟨q8, hq8, hf⟩ := bd hf
  refine g_Vi (As := [.ref (adE 7)]) (rest := []) ⟨hx, hb, hml, hown, hts⟩ (k_X5_is hq8) (cwV 1 hts gX5_readSecond_X5_is rfl rfl rfl (by decide +kernel) ⟨Nat.le_of_ble_eq_true rfl, Nat.le_of_ble_eq_true rfl⟩) STC_ok hst hK hw (eC_len.trans eC_len.symm) eC_c7 rfl rfl hl.1 rfl (Nat.le_of_ble_eq_true rfl) dX5_readSecond_4 ⟨Nat.zero_le _, Nat.zero_le _⟩ (fun H locs hw => ?_)
  refine lv_if_ne (tgt := 16) hx hb dX5_readSecond_7 (by decide) (fun c9 => ?_) (fun c9 => ?_)
  · have hf := it_n c9 hf
    refine lv_aload_n hx hb dX5_readSecond_16 rfl (lv_at hl 0 rfl) ?_
    obtain ⟨q10, hq10, hf⟩ := bd hf
    refine g_Vi (As := []) (rest := []) ⟨hx, hb, hml, hown, hts⟩ (k_X5_pass hq10) (cwV 0 hts gX5_readSecond_X5_pass rfl rfl rfl (by decide +kernel) ⟨Nat.le_of_ble_eq_true rfl, Nat.le_of_ble_eq_true rfl⟩) STC_ok hst hK hw (eC_len.trans eC_len.symm) eC_c7 rfl rfl hl.1 rfl (Nat.le_of_ble_eq_true rfl) dX5_readSecond_17 ⟨Nat.zero_le _, Nat.zero_le _⟩ (fun H locs hw => ?_)
    have hw : Wo D ad (Aw ad 124 s.heap.size) (eC ad adE y m_out t_draft m_tlen a_bytes m_nsize m_drafted a_letters a_nlen t_texts q10.2 m_fkind m_fplace m_toks t_types a_starts a_tlens m_heard m_qsize m_wayKnown m_way m_qKnown m_lineKnown m_nodes m_lsize a_tails a_heads a_gaps a_least m_csize a_ctails a_cheads a_cgaps a_leftOut a_qrow a_line a_tsize t_word a_own a_oth a_fst a_snd a_plc) s.heap H locs := hw
    refine lv_pop hx hb dX5_readSecond_20 rfl ?_
    refine lv_aload_n hx hb dX5_readSecond_21 rfl (lv_at hl 1 rfl) ?_
    refine lv_aload_n hx hb dX5_readSecond_22 rfl (lv_at hl 0 rfl) ?_
    refine lv_aload_n hx hb dX5_readSecond_23 rfl (lv_at hl 1 rfl) ?_
    obtain ⟨g11, hf⟩ := gN_some hf
    refine g_get hx hb hts i_X6 hown hK hw (40 + p1) (eC_S g11) rfl 3 (by decide) L_157 (fun _ h => h) rfl dX5_readSecond_24 ?_
    obtain ⟨q12, hq12, hf⟩ := bd hf
    refine g_Vi (As := [.int (a_fst p1)]) (rest := [.ref (ad (40 + p1))]) ⟨hx, hb, hml, hown, hts⟩ (k_X5_readNumber hq12) (cwV 1 hts gX5_readSecond_X5_readNumber rfl rfl rfl (by decide +kernel) ⟨Nat.le_of_ble_eq_true rfl, Nat.le_of_ble_eq_true rfl⟩) STC_ok hst hK hw (eC_len.trans eC_len.symm) eC_c7 rfl rfl hl.1 rfl (Nat.le_of_ble_eq_true rfl) dX5_readSecond_27 ⟨Nat.zero_le _, Nat.zero_le _⟩ (fun H locs hw => ?_)
    have hw : Wo D ad (Aw ad 124 s.heap.size) (eC ad adE y m_out t_draft m_tlen a_bytes m_nsize m_drafted a_letters a_nlen t_texts q12.2.1 q12.2.2.1 q12.2.2.2 m_toks t_types a_starts a_tlens m_heard m_qsize m_wayKnown m_way m_qKnown m_lineKnown m_nodes m_lsize a_tails a_heads a_gaps a_least m_csize a_ctails a_cheads a_cgaps a_leftOut a_qrow a_line a_tsize t_word a_own a_oth a_fst a_snd a_plc) s.heap H locs := hw
    refine g_put (ty := .int) hx hb hts i_X6 tyX6 tyX6_ok nmX6 hown hK hw (40 + p1) (eC_S g11) rfl 4 (by decide) L_163 (fun _ h => h) rfl (by decide +kernel) rfl rfl (Nat.le_of_ble_eq_true rfl) dX5_readSecond_30 (fun H locs hw => ?_)
    rw [eC_sS4 g11] at hw
    have hw : Wo D ad (Aw ad 124 s.heap.size) (eC ad adE y m_out t_draft m_tlen a_bytes m_nsize m_drafted a_letters a_nlen t_texts q12.2.1 q12.2.2.1 q12.2.2.2 m_toks t_types a_starts a_tlens m_heard m_qsize m_wayKnown m_way m_qKnown m_lineKnown m_nodes m_lsize a_tails a_heads a_gaps a_least m_csize a_ctails a_cheads a_cgaps a_leftOut a_qrow a_line a_tsize t_word a_own a_oth a_fst (upd a_snd p1 q12.1) a_plc) s.heap H locs := hw
    refine lv_aload_n hx hb dX5_readSecond_33 rfl (lv_at hl 1 rfl) ?_
    refine g_get hx hb hts i_X6 hown hK hw (40 + p1) (eC_S g11) rfl 4 (by decide) L_163 (fun _ h => h) rfl dX5_readSecond_34 ?_
    refine lv_iconst (v := (-1)) hx hb dX5_readSecond_37 (by decide) ?_
    refine lv_icmp_eq (tgt := 45) hx hb dX5_readSecond_38 (by decide) (fun c13 => ?_) (fun c13 => ?_)
    · have hf := it_p c13 hf
      refine lv_iconst (v := 0) hx hb dX5_readSecond_45 (by decide) ?_
      obtain rfl := so hf
      exact W.zret (v := 0) hx hb hr rfl (fun t ht _ => g_end hw t ht) hw.2.2.2.2 dX5_readSecond_46
    · have hf := it_n c13 hf
      refine lv_iconst (v := 1) hx hb dX5_readSecond_41 (by decide) ?_
      refine lv_goto (tgt := 46) hx hb dX5_readSecond_42 (by decide) ?_
      obtain rfl := so hf
      exact W.zret (v := 1) hx hb hr rfl (fun t ht _ => g_end hw t ht) hw.2.2.2.2 dX5_readSecond_46
  · have hf := it_p c9 hf
    refine lv_aload_n hx hb dX5_readSecond_10 rfl (lv_at hl 0 rfl) ?_
    refine lv_iconst (v := 1) hx hb dX5_readSecond_11 (by decide) ?_
    obtain ⟨q14, hq14, hf⟩ := bd hf
    refine g_Vi (As := [.int 1]) (rest := []) ⟨hx, hb, hml, hown, hts⟩ (k_X5_refuse hq14) (cwV 1 hts gX5_readSecond_X5_refuse rfl rfl rfl (by decide +kernel) ⟨Nat.le_of_ble_eq_true rfl, Nat.le_of_ble_eq_true rfl⟩) STC_ok hst hK hw (eC_len.trans eC_len.symm) eC_c7 rfl rfl hl.1 rfl (Nat.le_of_ble_eq_true rfl) dX5_readSecond_12 ⟨Nat.zero_le _, Nat.zero_le _⟩ (fun H locs hw => ?_)
    have hw : Wo D ad (Aw ad 124 s.heap.size) (eC ad adE y m_out t_draft m_tlen a_bytes m_nsize m_drafted a_letters a_nlen t_texts m_here q14.2.1 q14.2.2 m_toks t_types a_starts a_tlens m_heard m_qsize m_wayKnown m_way m_qKnown m_lineKnown m_nodes m_lsize a_tails a_heads a_gaps a_least m_csize a_ctails a_cheads a_cgaps a_leftOut a_qrow a_line a_tsize t_word a_own a_oth a_fst a_snd a_plc) s.heap H locs := hw
    obtain ⟨g15, hf⟩ := gB_some hf
    obtain rfl := so hf
    exact W.zret (v := q14.1) hx hb hr (gB_n g15) (fun t ht _ => g_end hw t ht) hw.2.2.2.2 dX5_readSecond_15
set_option maxHeartbeats 4000000 in
theorem k_X5_readSecond {l : Launch} {D : va_G} {ad : Nat → Nat} {y : Nat → ClassId} {adE adK adV : Nat → Nat} {tkA swA : Nat} {m_out : Int32} {t_draft : Nat} {m_tlen : Int32} {a_bytes : Nat → Int32} {m_nsize : Int32} {m_drafted : Int32} {a_letters : Nat → Int32} {a_nlen : Nat → Int32} {t_texts : Nat → Nat} {m_here : Int32} {m_fkind : Int32} {m_fplace : Int32} {m_toks : Int32} {t_types : Nat → Nat} {a_starts : Nat → Int32} {a_tlens : Nat → Int32} {m_heard : Int32} {m_qsize : Int32} {m_wayKnown : Int32} {m_way : Int32} {m_qKnown : Int32} {m_lineKnown : Int32} {m_nodes : Int32} {m_lsize : Int32} {a_tails : Nat → Int32} {a_heads : Nat → Int32} {a_gaps : Nat → Int32} {a_least : Nat → Int32} {m_csize : Int32} {a_ctails : Nat → Int32} {a_cheads : Nat → Int32} {a_cgaps : Nat → Int32} {a_leftOut : Nat → Int32} {a_qrow : Nat → Int32} {a_line : Nat → Int32} {a_tsize : Nat → Int32} {t_word : Nat → Nat} {a_own : Nat → Int32} {a_oth : Nat → Int32} {a_fst : Nat → Int32} {a_snd : Nat → Int32} {a_plc : Nat → Int32} {p1 : Nat} {res : Int32 × Int32 × Int32 × Int32 × (Nat → Int32)} (hf : f_X5_readSecond a_bytes m_here m_fkind m_fplace t_types a_starts a_tlens a_fst a_snd p1 = some res) : CTi l yX5_readSecond wsX5_readSecond rm_X5_readSecond D ad 124 (tyL y) (STC ad adE adK adV tkA swA) (eC ad adE y m_out t_draft m_tlen a_bytes m_nsize m_drafted a_letters a_nlen t_texts m_here m_fkind m_fplace m_toks t_types a_starts a_tlens m_heard m_qsize m_wayKnown m_way m_qKnown m_lineKnown m_nodes m_lsize a_tails a_heads a_gaps a_least m_csize a_ctails a_cheads a_cgaps a_leftOut a_qrow a_line a_tsize t_word a_own a_oth a_fst a_snd a_plc) (eC ad adE y m_out t_draft m_tlen a_bytes m_nsize m_drafted a_letters a_nlen t_texts res.2.1 res.2.2.1 res.2.2.2.1 m_toks t_types a_starts a_tlens m_heard m_qsize m_wayKnown m_way m_qKnown m_lineKnown m_nodes m_lsize a_tails a_heads a_gaps a_least m_csize a_ctails a_cheads a_cgaps a_leftOut a_qrow a_line a_tsize t_word a_own a_oth a_fst res.2.2.2.2 a_plc) [.ref (ad 7), .ref (ad (40 + p1))] res.1 := by
  intro sz
  refine Met.ofW (cc := cX5_readSecond) (maxL := 2) (ret := (some .boolean)) (by decide) rfl ?_
  intro p e s m args below meth c s₁ B hml hv
  obtain ⟨rfl, hsz, hP, hK, hD0, hst⟩ := hv
  subst hsz
  have C0 : CXT wsX5_readSecond cX5_readSecond RX5 2 (some .boolean) D (tyL y) (STC ad adE adK adV tkA swA) p s m ([.ref (ad 7), .ref (ad (40 + p1))] : List Value).toArray meth c := ⟨B.exec, B.bytes, B.returns, hml, findClass_of_methodNamed B.named, atoms_spec (ws := wsX5_readSecond) B.pre, B.notSynchronized, hK, hst⟩
  have hw := g_start (n := 124) eC_len hP hD0
  have hl := lv_entry ([.ref (ad 7), .ref (ad (40 + p1))]) (n := 2) (Nat.le_of_ble_eq_true rfl)
  rw [lg_entry_eq]
  generalize (lg_sl ([.ref (ad 7), .ref (ad (40 + p1))]) ++ List.replicate (2 - (lg_sl ([.ref (ad 7), .ref (ad (40 + p1))])).length) Slot.unset).toArray = ls at hl ⊢
  have hl : lv_has ls 2 [(0, .ref (ad 7)), (1, .ref (ad (40 + p1)))] := hl
  exact ke_X5_readSecond C0 hf hw hl
abbrev rm_X5_readSecondIfAny : Room := { frames := 3, cells := 0, slots := 0, locals := 65 }
abbrev QM_X5_readSecondIfAny (below : List Frame) (args : Array Value) (s : State) (D : va_G) (ad : Nat → Nat) (y : Nat → ClassId) (adE : Nat → Nat) (m_out : Int32) (t_draft : Nat) (m_tlen : Int32) (a_bytes : Nat → Int32) (m_nsize : Int32) (m_drafted : Int32) (a_letters : Nat → Int32) (a_nlen : Nat → Int32) (t_texts : Nat → Nat) (m_toks : Int32) (t_types : Nat → Nat) (a_starts : Nat → Int32) (a_tlens : Nat → Int32) (m_heard : Int32) (m_qsize : Int32) (m_wayKnown : Int32) (m_way : Int32) (m_qKnown : Int32) (m_lineKnown : Int32) (m_nodes : Int32) (m_lsize : Int32) (a_tails : Nat → Int32) (a_heads : Nat → Int32) (a_gaps : Nat → Int32) (a_least : Nat → Int32) (m_csize : Int32) (a_ctails : Nat → Int32) (a_cheads : Nat → Int32) (a_cgaps : Nat → Int32) (a_leftOut : Nat → Int32) (a_qrow : Nat → Int32) (a_line : Nat → Int32) (a_tsize : Nat → Int32) (t_word : Nat → Nat) (a_own : Nat → Int32) (a_oth : Nat → Int32) (a_fst : Nat → Int32) (a_plc : Nat → Int32) (res : Int32 × Int32 × Int32 × Int32 × (Nat → Int32)) : State → Prop := MQ below (va_Qi (fun x (_ : Unit) => x = res.1) (fun _ t => va_P D vwCl (wls ad (eC ad adE y m_out t_draft m_tlen a_bytes m_nsize m_drafted a_letters a_nlen t_texts res.2.1 res.2.2.1 res.2.2.2.1 m_toks t_types a_starts a_tlens m_heard m_qsize m_wayKnown m_way m_qKnown m_lineKnown m_nodes m_lsize a_tails a_heads a_gaps a_least m_csize a_ctails a_cheads a_cgaps a_leftOut a_qrow a_line a_tsize t_word a_own a_oth a_fst res.2.2.2.2 a_plc)) t.heap) (Aw ad 124 s.heap.size)) args s 0 0 (Aw ad 124 s.heap.size)
set_option maxHeartbeats 4000000 in
set_option maxRecDepth 100000 in
theorem ke_X5_readSecondIfAny {p : Program} {l : Launch} {e : Env} {s : State} {m : MethodId} {args : Array Value} {below : List Frame} {meth : Method} {c : Code} {D : va_G} {ad : Nat → Nat} {y : Nat → ClassId} {adE adK adV : Nat → Nat} {tkA swA : Nat} (C0 : CXT wsX5_readSecondIfAny cX5_readSecondIfAny RX5 2 (some .boolean) D (tyL y) (STC ad adE adK adV tkA swA) p s m args meth c) {m_out : Int32} {t_draft : Nat} {m_tlen : Int32} {a_bytes : Nat → Int32} {m_nsize : Int32} {m_drafted : Int32} {a_letters : Nat → Int32} {a_nlen : Nat → Int32} {t_texts : Nat → Nat} {m_here : Int32} {m_fkind : Int32} {m_fplace : Int32} {m_toks : Int32} {t_types : Nat → Nat} {a_starts : Nat → Int32} {a_tlens : Nat → Int32} {m_heard : Int32} {m_qsize : Int32} {m_wayKnown : Int32} {m_way : Int32} {m_qKnown : Int32} {m_lineKnown : Int32} {m_nodes : Int32} {m_lsize : Int32} {a_tails : Nat → Int32} {a_heads : Nat → Int32} {a_gaps : Nat → Int32} {a_least : Nat → Int32} {m_csize : Int32} {a_ctails : Nat → Int32} {a_cheads : Nat → Int32} {a_cgaps : Nat → Int32} {a_leftOut : Nat → Int32} {a_qrow : Nat → Int32} {a_line : Nat → Int32} {a_tsize : Nat → Int32} {t_word : Nat → Nat} {a_own : Nat → Int32} {a_oth : Nat → Int32} {a_fst : Nat → Int32} {a_snd : Nat → Int32} {a_plc : Nat → Int32} {p1 : Nat} {res : Int32 × Int32 × Int32 × Int32 × (Nat → Int32)} (hf : f_X5_readSecondIfAny a_bytes m_here m_fkind m_fplace t_types a_starts a_tlens a_fst a_snd p1 = some res) {H : Heap} {locs : List Loc} {ls : Array Slot} (hw : Wo D ad (Aw ad 124 s.heap.size) (eC ad adE y m_out t_draft m_tlen a_bytes m_nsize m_drafted a_letters a_nlen t_texts m_here m_fkind m_fplace m_toks t_types a_starts a_tlens m_heard m_qsize m_wayKnown m_way m_qKnown m_lineKnown m_nodes m_lsize a_tails a_heads a_gaps a_least m_csize a_ctails a_cheads a_cgaps a_leftOut a_qrow a_line a_tsize t_word a_own a_oth a_fst a_snd a_plc) s.heap H locs) (hl : lv_has ls 2 [(0, .ref (ad 7)), (1, .ref (ad (40 + p1)))]) : W p l e rm_X5_readSecondIfAny s m args below meth c H locs 0 0 (QM_X5_readSecondIfAny below args s D ad y adE (m_out) (t_draft) (m_tlen) (a_bytes) (m_nsize) (m_drafted) (a_letters) (a_nlen) (t_texts) (m_toks) (t_types) (a_starts) (a_tlens) (m_heard) (m_qsize) (m_wayKnown) (m_way) (m_qKnown) (m_lineKnown) (m_nodes) (m_lsize) (a_tails) (a_heads) (a_gaps) (a_least) (m_csize) (a_ctails) (a_cheads) (a_cgaps) (a_leftOut) (a_qrow) (a_line) (a_tsize) (t_word) (a_own) (a_oth) (a_fst) (a_plc) res) (F0 m 0 ls []) := by
  obtain ⟨hx, hb, hr, hml, hown, hts, hlocks, hK, hst⟩ := id C0
  have i_X6 : ∀ w ∈ u_ws RX6 TX6 6, w ∈ wsX5_readSecondIfAny := by decide +kernel
  have L_157 := hts (.fieldLink RX5 157 "CaseOrder$Saying" "first" "I") (by decide +kernel)
  have L_160 := hts (.fieldLink RX5 160 "CaseOrder$Token" "TO" "LCaseOrder$Token;") (by decide +kernel)
  unfold f_X5_readSecondIfAny at hf
  refine lv_aload_n hx hb dX5_readSecondIfAny_0 rfl (lv_at hl 1 rfl) ?_
  obtain ⟨g4, hf⟩ := gN_some hf
  refine g_get hx hb hts i_X6 hown hK hw (40 + p1) (eC_S g4) rfl 3 (by decide) L_157 (fun _ h => h) rfl dX5_readSecondIfAny_1 ?_
  refine lv_iconst (v := (-1)) hx hb dX5_readSecondIfAny_4 (by decide) ?_
  refine lv_icmp_eq (tgt := 26) hx hb dX5_readSecondIfAny_5 (by decide) (fun c5 => ?_) (fun c5 => ?_)
  · have hf := it_p c5 hf
    refine lv_iconst (v := 1) hx hb dX5_readSecondIfAny_26 (by decide) ?_
    refine lv_goto (tgt := 31) hx hb dX5_readSecondIfAny_27 (by decide) ?_
    obtain rfl := so hf
    exact W.zret (v := 1) hx hb hr rfl (fun t ht _ => g_end hw t ht) hw.2.2.2.2 dX5_readSecondIfAny_31
  · have hf := it_n c5 hf
    refine lv_aload_n hx hb dX5_readSecondIfAny_8 rfl (lv_at hl 0 rfl) ?_
    refine va_gets hx hb (sC_tok 7 (by decide) rfl hst) hw.2.2 hown L_160 (fun _ h => h) dX5_readSecondIfAny_9 ?_
    obtain ⟨q6, hq6, hf⟩ := bd hf
    refine g_Vi (As := [.ref (adE 7)]) (rest := []) ⟨hx, hb, hml, hown, hts⟩ (k_X5_is hq6) (cwV 1 hts gX5_readSecondIfAny_X5_is rfl rfl rfl (by decide +kernel) ⟨Nat.le_of_ble_eq_true rfl, Nat.le_of_ble_eq_true rfl⟩) STC_ok hst hK hw (eC_len.trans eC_len.symm) eC_c7 rfl rfl hl.1 rfl (Nat.le_of_ble_eq_true rfl) dX5_readSecondIfAny_12 ⟨Nat.zero_le _, Nat.zero_le _⟩ (fun H locs hw => ?_)
    refine lv_if_eq (tgt := 26) hx hb dX5_readSecondIfAny_15 (by decide) (fun c7 => ?_) (fun c7 => ?_)
    · have hf := it_p c7 hf
      refine lv_iconst (v := 1) hx hb dX5_readSecondIfAny_26 (by decide) ?_
      refine lv_goto (tgt := 31) hx hb dX5_readSecondIfAny_27 (by decide) ?_
      obtain rfl := so hf
      exact W.zret (v := 1) hx hb hr rfl (fun t ht _ => g_end hw t ht) hw.2.2.2.2 dX5_readSecondIfAny_31
    · have hf := it_n c7 hf
      refine lv_aload_n hx hb dX5_readSecondIfAny_18 rfl (lv_at hl 0 rfl) ?_
      refine lv_aload_n hx hb dX5_readSecondIfAny_19 rfl (lv_at hl 1 rfl) ?_
      obtain ⟨q8, hq8, hf⟩ := bd hf
      refine g_Vi (As := [.ref (ad (40 + p1))]) (rest := []) ⟨hx, hb, hml, hown, hts⟩ (k_X5_readSecond hq8) (cwV 1 hts gX5_readSecondIfAny_X5_readSecond rfl rfl rfl (by decide +kernel) ⟨Nat.le_of_ble_eq_true rfl, Nat.le_of_ble_eq_true rfl⟩) STC_ok hst hK hw (eC_len.trans eC_len.symm) eC_c7 rfl rfl hl.1 rfl (Nat.le_of_ble_eq_true rfl) dX5_readSecondIfAny_20 ⟨Nat.zero_le _, Nat.zero_le _⟩ (fun H locs hw => ?_)
      have hw : Wo D ad (Aw ad 124 s.heap.size) (eC ad adE y m_out t_draft m_tlen a_bytes m_nsize m_drafted a_letters a_nlen t_texts q8.2.1 q8.2.2.1 q8.2.2.2.1 m_toks t_types a_starts a_tlens m_heard m_qsize m_wayKnown m_way m_qKnown m_lineKnown m_nodes m_lsize a_tails a_heads a_gaps a_least m_csize a_ctails a_cheads a_cgaps a_leftOut a_qrow a_line a_tsize t_word a_own a_oth a_fst q8.2.2.2.2 a_plc) s.heap H locs := hw
      refine lv_if_eq (tgt := 30) hx hb dX5_readSecondIfAny_23 (by decide) (fun c9 => ?_) (fun c9 => ?_)
      · have hf := it_p c9 hf
        refine lv_iconst (v := 0) hx hb dX5_readSecondIfAny_30 (by decide) ?_
        obtain rfl := so hf
        exact W.zret (v := 0) hx hb hr rfl (fun t ht _ => g_end hw t ht) hw.2.2.2.2 dX5_readSecondIfAny_31
      · have hf := it_n c9 hf
        refine lv_iconst (v := 1) hx hb dX5_readSecondIfAny_26 (by decide) ?_
        refine lv_goto (tgt := 31) hx hb dX5_readSecondIfAny_27 (by decide) ?_
        obtain rfl := so hf
        exact W.zret (v := 1) hx hb hr rfl (fun t ht _ => g_end hw t ht) hw.2.2.2.2 dX5_readSecondIfAny_31
set_option maxHeartbeats 4000000 in
theorem k_X5_readSecondIfAny {l : Launch} {D : va_G} {ad : Nat → Nat} {y : Nat → ClassId} {adE adK adV : Nat → Nat} {tkA swA : Nat} {m_out : Int32} {t_draft : Nat} {m_tlen : Int32} {a_bytes : Nat → Int32} {m_nsize : Int32} {m_drafted : Int32} {a_letters : Nat → Int32} {a_nlen : Nat → Int32} {t_texts : Nat → Nat} {m_here : Int32} {m_fkind : Int32} {m_fplace : Int32} {m_toks : Int32} {t_types : Nat → Nat} {a_starts : Nat → Int32} {a_tlens : Nat → Int32} {m_heard : Int32} {m_qsize : Int32} {m_wayKnown : Int32} {m_way : Int32} {m_qKnown : Int32} {m_lineKnown : Int32} {m_nodes : Int32} {m_lsize : Int32} {a_tails : Nat → Int32} {a_heads : Nat → Int32} {a_gaps : Nat → Int32} {a_least : Nat → Int32} {m_csize : Int32} {a_ctails : Nat → Int32} {a_cheads : Nat → Int32} {a_cgaps : Nat → Int32} {a_leftOut : Nat → Int32} {a_qrow : Nat → Int32} {a_line : Nat → Int32} {a_tsize : Nat → Int32} {t_word : Nat → Nat} {a_own : Nat → Int32} {a_oth : Nat → Int32} {a_fst : Nat → Int32} {a_snd : Nat → Int32} {a_plc : Nat → Int32} {p1 : Nat} {res : Int32 × Int32 × Int32 × Int32 × (Nat → Int32)} (hf : f_X5_readSecondIfAny a_bytes m_here m_fkind m_fplace t_types a_starts a_tlens a_fst a_snd p1 = some res) : CTi l yX5_readSecondIfAny wsX5_readSecondIfAny rm_X5_readSecondIfAny D ad 124 (tyL y) (STC ad adE adK adV tkA swA) (eC ad adE y m_out t_draft m_tlen a_bytes m_nsize m_drafted a_letters a_nlen t_texts m_here m_fkind m_fplace m_toks t_types a_starts a_tlens m_heard m_qsize m_wayKnown m_way m_qKnown m_lineKnown m_nodes m_lsize a_tails a_heads a_gaps a_least m_csize a_ctails a_cheads a_cgaps a_leftOut a_qrow a_line a_tsize t_word a_own a_oth a_fst a_snd a_plc) (eC ad adE y m_out t_draft m_tlen a_bytes m_nsize m_drafted a_letters a_nlen t_texts res.2.1 res.2.2.1 res.2.2.2.1 m_toks t_types a_starts a_tlens m_heard m_qsize m_wayKnown m_way m_qKnown m_lineKnown m_nodes m_lsize a_tails a_heads a_gaps a_least m_csize a_ctails a_cheads a_cgaps a_leftOut a_qrow a_line a_tsize t_word a_own a_oth a_fst res.2.2.2.2 a_plc) [.ref (ad 7), .ref (ad (40 + p1))] res.1 := by
  intro sz
  refine Met.ofW (cc := cX5_readSecondIfAny) (maxL := 2) (ret := (some .boolean)) (by decide) rfl ?_
  intro p e s m args below meth c s₁ B hml hv
  obtain ⟨rfl, hsz, hP, hK, hD0, hst⟩ := hv
  subst hsz
  have C0 : CXT wsX5_readSecondIfAny cX5_readSecondIfAny RX5 2 (some .boolean) D (tyL y) (STC ad adE adK adV tkA swA) p s m ([.ref (ad 7), .ref (ad (40 + p1))] : List Value).toArray meth c := ⟨B.exec, B.bytes, B.returns, hml, findClass_of_methodNamed B.named, atoms_spec (ws := wsX5_readSecondIfAny) B.pre, B.notSynchronized, hK, hst⟩
  have hw := g_start (n := 124) eC_len hP hD0
  have hl := lv_entry ([.ref (ad 7), .ref (ad (40 + p1))]) (n := 2) (Nat.le_of_ble_eq_true rfl)
  rw [lg_entry_eq]
  generalize (lg_sl ([.ref (ad 7), .ref (ad (40 + p1))]) ++ List.replicate (2 - (lg_sl ([.ref (ad 7), .ref (ad (40 + p1))])).length) Slot.unset).toArray = ls at hl ⊢
  have hl : lv_has ls 2 [(0, .ref (ad 7)), (1, .ref (ad (40 + p1)))] := hl
  exact ke_X5_readSecondIfAny C0 hf hw hl
abbrev rm_X5_readStop : Room := { frames := 1, cells := 0, slots := 0, locals := 21 }
abbrev QM_X5_readStop (below : List Frame) (args : Array Value) (s : State) (D : va_G) (ad : Nat → Nat) (y : Nat → ClassId) (adE : Nat → Nat) (m_out : Int32) (t_draft : Nat) (m_tlen : Int32) (a_bytes : Nat → Int32) (m_nsize : Int32) (m_drafted : Int32) (a_letters : Nat → Int32) (a_nlen : Nat → Int32) (t_texts : Nat → Nat) (m_toks : Int32) (t_types : Nat → Nat) (a_starts : Nat → Int32) (a_tlens : Nat → Int32) (m_heard : Int32) (m_qsize : Int32) (m_wayKnown : Int32) (m_way : Int32) (m_qKnown : Int32) (m_lineKnown : Int32) (m_nodes : Int32) (m_lsize : Int32) (a_tails : Nat → Int32) (a_heads : Nat → Int32) (a_gaps : Nat → Int32) (a_least : Nat → Int32) (m_csize : Int32) (a_ctails : Nat → Int32) (a_cheads : Nat → Int32) (a_cgaps : Nat → Int32) (a_leftOut : Nat → Int32) (a_qrow : Nat → Int32) (a_line : Nat → Int32) (a_tsize : Nat → Int32) (t_word : Nat → Nat) (a_own : Nat → Int32) (a_oth : Nat → Int32) (a_fst : Nat → Int32) (a_snd : Nat → Int32) (a_plc : Nat → Int32) (res : Int32 × Int32 × Int32 × Int32) : State → Prop := MQ below (va_Qi (fun x (_ : Unit) => x = res.1) (fun _ t => va_P D vwCl (wls ad (eC ad adE y m_out t_draft m_tlen a_bytes m_nsize m_drafted a_letters a_nlen t_texts res.2.1 res.2.2.1 res.2.2.2 m_toks t_types a_starts a_tlens m_heard m_qsize m_wayKnown m_way m_qKnown m_lineKnown m_nodes m_lsize a_tails a_heads a_gaps a_least m_csize a_ctails a_cheads a_cgaps a_leftOut a_qrow a_line a_tsize t_word a_own a_oth a_fst a_snd a_plc)) t.heap) (Aw ad 124 s.heap.size)) args s 0 0 (Aw ad 124 s.heap.size)
set_option maxHeartbeats 4000000 in
set_option maxRecDepth 100000 in
theorem ke_X5_readStop {p : Program} {l : Launch} {e : Env} {s : State} {m : MethodId} {args : Array Value} {below : List Frame} {meth : Method} {c : Code} {D : va_G} {ad : Nat → Nat} {y : Nat → ClassId} {adE adK adV : Nat → Nat} {tkA swA : Nat} (C0 : CXT wsX5_readStop cX5_readStop RX5 1 (some .boolean) D (tyL y) (STC ad adE adK adV tkA swA) p s m args meth c) {m_out : Int32} {t_draft : Nat} {m_tlen : Int32} {a_bytes : Nat → Int32} {m_nsize : Int32} {m_drafted : Int32} {a_letters : Nat → Int32} {a_nlen : Nat → Int32} {t_texts : Nat → Nat} {m_here : Int32} {m_fkind : Int32} {m_fplace : Int32} {m_toks : Int32} {t_types : Nat → Nat} {a_starts : Nat → Int32} {a_tlens : Nat → Int32} {m_heard : Int32} {m_qsize : Int32} {m_wayKnown : Int32} {m_way : Int32} {m_qKnown : Int32} {m_lineKnown : Int32} {m_nodes : Int32} {m_lsize : Int32} {a_tails : Nat → Int32} {a_heads : Nat → Int32} {a_gaps : Nat → Int32} {a_least : Nat → Int32} {m_csize : Int32} {a_ctails : Nat → Int32} {a_cheads : Nat → Int32} {a_cgaps : Nat → Int32} {a_leftOut : Nat → Int32} {a_qrow : Nat → Int32} {a_line : Nat → Int32} {a_tsize : Nat → Int32} {t_word : Nat → Nat} {a_own : Nat → Int32} {a_oth : Nat → Int32} {a_fst : Nat → Int32} {a_snd : Nat → Int32} {a_plc : Nat → Int32}  {res : Int32 × Int32 × Int32 × Int32} (hf : f_X5_readStop m_here m_fkind m_fplace t_types a_starts = some res) {H : Heap} {locs : List Loc} {ls : Array Slot} (hw : Wo D ad (Aw ad 124 s.heap.size) (eC ad adE y m_out t_draft m_tlen a_bytes m_nsize m_drafted a_letters a_nlen t_texts m_here m_fkind m_fplace m_toks t_types a_starts a_tlens m_heard m_qsize m_wayKnown m_way m_qKnown m_lineKnown m_nodes m_lsize a_tails a_heads a_gaps a_least m_csize a_ctails a_cheads a_cgaps a_leftOut a_qrow a_line a_tsize t_word a_own a_oth a_fst a_snd a_plc) s.heap H locs) (hl : lv_has ls 1 [(0, .ref (ad 7))]) : W p l e rm_X5_readStop s m args below meth c H locs 0 0 (QM_X5_readStop below args s D ad y adE (m_out) (t_draft) (m_tlen) (a_bytes) (m_nsize) (m_drafted) (a_letters) (a_nlen) (t_texts) (m_toks) (t_types) (a_starts) (a_tlens) (m_heard) (m_qsize) (m_wayKnown) (m_way) (m_qKnown) (m_lineKnown) (m_nodes) (m_lsize) (a_tails) (a_heads) (a_gaps) (a_least) (m_csize) (a_ctails) (a_cheads) (a_cgaps) (a_leftOut) (a_qrow) (a_line) (a_tsize) (t_word) (a_own) (a_oth) (a_fst) (a_snd) (a_plc) res) (F0 m 0 ls []) := by
  obtain ⟨hx, hb, hr, hml, hown, hts, hlocks, hK, hst⟩ := id C0
  have L_166 := hts (.fieldLink RX5 166 "CaseOrder$Token" "STOP" "LCaseOrder$Token;") (by decide +kernel)
  unfold f_X5_readStop at hf
  refine lv_aload_n hx hb dX5_readStop_0 rfl (lv_at hl 0 rfl) ?_
  refine va_gets hx hb (sC_tok 10 (by decide) rfl hst) hw.2.2 hown L_166 (fun _ h => h) dX5_readStop_1 ?_
  obtain ⟨q4, hq4, hf⟩ := bd hf
  refine g_Vi (As := [.ref (adE 10)]) (rest := []) ⟨hx, hb, hml, hown, hts⟩ (k_X5_is hq4) (cwV 1 hts gX5_readStop_X5_is rfl rfl rfl (by decide +kernel) ⟨Nat.le_of_ble_eq_true rfl, Nat.le_of_ble_eq_true rfl⟩) STC_ok hst hK hw (eC_len.trans eC_len.symm) eC_c7 rfl rfl hl.1 rfl (Nat.le_of_ble_eq_true rfl) dX5_readStop_4 ⟨Nat.zero_le _, Nat.zero_le _⟩ (fun H locs hw => ?_)
  refine lv_if_eq (tgt := 17) hx hb dX5_readStop_7 (by decide) (fun c5 => ?_) (fun c5 => ?_)
  · have hf := it_p c5 hf
    refine lv_aload_n hx hb dX5_readStop_17 rfl (lv_at hl 0 rfl) ?_
    refine lv_iconst (v := 1) hx hb dX5_readStop_18 (by decide) ?_
    obtain ⟨q6, hq6, hf⟩ := bd hf
    refine g_Vi (As := [.int 1]) (rest := []) ⟨hx, hb, hml, hown, hts⟩ (k_X5_refuse hq6) (cwV 1 hts gX5_readStop_X5_refuse rfl rfl rfl (by decide +kernel) ⟨Nat.le_of_ble_eq_true rfl, Nat.le_of_ble_eq_true rfl⟩) STC_ok hst hK hw (eC_len.trans eC_len.symm) eC_c7 rfl rfl hl.1 rfl (Nat.le_of_ble_eq_true rfl) dX5_readStop_19 ⟨Nat.zero_le _, Nat.zero_le _⟩ (fun H locs hw => ?_)
    have hw : Wo D ad (Aw ad 124 s.heap.size) (eC ad adE y m_out t_draft m_tlen a_bytes m_nsize m_drafted a_letters a_nlen t_texts m_here q6.2.1 q6.2.2 m_toks t_types a_starts a_tlens m_heard m_qsize m_wayKnown m_way m_qKnown m_lineKnown m_nodes m_lsize a_tails a_heads a_gaps a_least m_csize a_ctails a_cheads a_cgaps a_leftOut a_qrow a_line a_tsize t_word a_own a_oth a_fst a_snd a_plc) s.heap H locs := hw
    obtain ⟨g7, hf⟩ := gB_some hf
    obtain rfl := so hf
    exact W.zret (v := q6.1) hx hb hr (gB_n g7) (fun t ht _ => g_end hw t ht) hw.2.2.2.2 dX5_readStop_22
  · have hf := it_n c5 hf
    refine lv_aload_n hx hb dX5_readStop_10 rfl (lv_at hl 0 rfl) ?_
    obtain ⟨q8, hq8, hf⟩ := bd hf
    refine g_Vi (As := []) (rest := []) ⟨hx, hb, hml, hown, hts⟩ (k_X5_pass hq8) (cwV 0 hts gX5_readStop_X5_pass rfl rfl rfl (by decide +kernel) ⟨Nat.le_of_ble_eq_true rfl, Nat.le_of_ble_eq_true rfl⟩) STC_ok hst hK hw (eC_len.trans eC_len.symm) eC_c7 rfl rfl hl.1 rfl (Nat.le_of_ble_eq_true rfl) dX5_readStop_11 ⟨Nat.zero_le _, Nat.zero_le _⟩ (fun H locs hw => ?_)
    have hw : Wo D ad (Aw ad 124 s.heap.size) (eC ad adE y m_out t_draft m_tlen a_bytes m_nsize m_drafted a_letters a_nlen t_texts q8.2 m_fkind m_fplace m_toks t_types a_starts a_tlens m_heard m_qsize m_wayKnown m_way m_qKnown m_lineKnown m_nodes m_lsize a_tails a_heads a_gaps a_least m_csize a_ctails a_cheads a_cgaps a_leftOut a_qrow a_line a_tsize t_word a_own a_oth a_fst a_snd a_plc) s.heap H locs := hw
    refine lv_goto (tgt := 22) hx hb dX5_readStop_14 (by decide) ?_
    obtain ⟨g9, hf⟩ := gB_some hf
    obtain rfl := so hf
    exact W.zret (v := q8.1) hx hb hr (gB_n g9) (fun t ht _ => g_end hw t ht) hw.2.2.2.2 dX5_readStop_22
set_option maxHeartbeats 4000000 in
theorem k_X5_readStop {l : Launch} {D : va_G} {ad : Nat → Nat} {y : Nat → ClassId} {adE adK adV : Nat → Nat} {tkA swA : Nat} {m_out : Int32} {t_draft : Nat} {m_tlen : Int32} {a_bytes : Nat → Int32} {m_nsize : Int32} {m_drafted : Int32} {a_letters : Nat → Int32} {a_nlen : Nat → Int32} {t_texts : Nat → Nat} {m_here : Int32} {m_fkind : Int32} {m_fplace : Int32} {m_toks : Int32} {t_types : Nat → Nat} {a_starts : Nat → Int32} {a_tlens : Nat → Int32} {m_heard : Int32} {m_qsize : Int32} {m_wayKnown : Int32} {m_way : Int32} {m_qKnown : Int32} {m_lineKnown : Int32} {m_nodes : Int32} {m_lsize : Int32} {a_tails : Nat → Int32} {a_heads : Nat → Int32} {a_gaps : Nat → Int32} {a_least : Nat → Int32} {m_csize : Int32} {a_ctails : Nat → Int32} {a_cheads : Nat → Int32} {a_cgaps : Nat → Int32} {a_leftOut : Nat → Int32} {a_qrow : Nat → Int32} {a_line : Nat → Int32} {a_tsize : Nat → Int32} {t_word : Nat → Nat} {a_own : Nat → Int32} {a_oth : Nat → Int32} {a_fst : Nat → Int32} {a_snd : Nat → Int32} {a_plc : Nat → Int32}  {res : Int32 × Int32 × Int32 × Int32} (hf : f_X5_readStop m_here m_fkind m_fplace t_types a_starts = some res) : CTi l yX5_readStop wsX5_readStop rm_X5_readStop D ad 124 (tyL y) (STC ad adE adK adV tkA swA) (eC ad adE y m_out t_draft m_tlen a_bytes m_nsize m_drafted a_letters a_nlen t_texts m_here m_fkind m_fplace m_toks t_types a_starts a_tlens m_heard m_qsize m_wayKnown m_way m_qKnown m_lineKnown m_nodes m_lsize a_tails a_heads a_gaps a_least m_csize a_ctails a_cheads a_cgaps a_leftOut a_qrow a_line a_tsize t_word a_own a_oth a_fst a_snd a_plc) (eC ad adE y m_out t_draft m_tlen a_bytes m_nsize m_drafted a_letters a_nlen t_texts res.2.1 res.2.2.1 res.2.2.2 m_toks t_types a_starts a_tlens m_heard m_qsize m_wayKnown m_way m_qKnown m_lineKnown m_nodes m_lsize a_tails a_heads a_gaps a_least m_csize a_ctails a_cheads a_cgaps a_leftOut a_qrow a_line a_tsize t_word a_own a_oth a_fst a_snd a_plc) [.ref (ad 7)] res.1 := by
  intro sz
  refine Met.ofW (cc := cX5_readStop) (maxL := 1) (ret := (some .boolean)) (by decide) rfl ?_
  intro p e s m args below meth c s₁ B hml hv
  obtain ⟨rfl, hsz, hP, hK, hD0, hst⟩ := hv
  subst hsz
  have C0 : CXT wsX5_readStop cX5_readStop RX5 1 (some .boolean) D (tyL y) (STC ad adE adK adV tkA swA) p s m ([.ref (ad 7)] : List Value).toArray meth c := ⟨B.exec, B.bytes, B.returns, hml, findClass_of_methodNamed B.named, atoms_spec (ws := wsX5_readStop) B.pre, B.notSynchronized, hK, hst⟩
  have hw := g_start (n := 124) eC_len hP hD0
  have hl := lv_entry ([.ref (ad 7)]) (n := 1) (Nat.le_of_ble_eq_true rfl)
  rw [lg_entry_eq]
  generalize (lg_sl ([.ref (ad 7)]) ++ List.replicate (1 - (lg_sl ([.ref (ad 7)])).length) Slot.unset).toArray = ls at hl ⊢
  have hl : lv_has ls 1 [(0, .ref (ad 7))] := hl
  exact ke_X5_readStop C0 hf hw hl
abbrev rm_X5_readRest : Room := { frames := 4, cells := 0, slots := 0, locals := 94 }
abbrev QM_X5_readRest (below : List Frame) (args : Array Value) (s : State) (D : va_G) (ad : Nat → Nat) (y : Nat → ClassId) (adE : Nat → Nat) (m_out : Int32) (t_draft : Nat) (m_tlen : Int32) (a_bytes : Nat → Int32) (m_nsize : Int32) (t_texts : Nat → Nat) (m_toks : Int32) (t_types : Nat → Nat) (a_starts : Nat → Int32) (a_tlens : Nat → Int32) (m_heard : Int32) (m_qsize : Int32) (m_wayKnown : Int32) (m_way : Int32) (m_qKnown : Int32) (m_lineKnown : Int32) (m_nodes : Int32) (m_lsize : Int32) (a_tails : Nat → Int32) (a_heads : Nat → Int32) (a_gaps : Nat → Int32) (a_least : Nat → Int32) (m_csize : Int32) (a_ctails : Nat → Int32) (a_cheads : Nat → Int32) (a_cgaps : Nat → Int32) (a_leftOut : Nat → Int32) (a_qrow : Nat → Int32) (a_line : Nat → Int32) (a_tsize : Nat → Int32) (a_own : Nat → Int32) (a_plc : Nat → Int32) (res : Int32 × Int32 × (Nat → Int32) × (Nat → Int32) × Int32 × Int32 × Int32 × (Nat → Nat) × (Nat → Int32) × (Nat → Int32) × (Nat → Int32)) : State → Prop := MQ below (va_Qi (fun x (_ : Unit) => x = res.1) (fun _ t => va_P D vwCl (wls ad (eC ad adE y m_out t_draft m_tlen a_bytes m_nsize res.2.1 res.2.2.1 res.2.2.2.1 t_texts res.2.2.2.2.1 res.2.2.2.2.2.1 res.2.2.2.2.2.2.1 m_toks t_types a_starts a_tlens m_heard m_qsize m_wayKnown m_way m_qKnown m_lineKnown m_nodes m_lsize a_tails a_heads a_gaps a_least m_csize a_ctails a_cheads a_cgaps a_leftOut a_qrow a_line a_tsize res.2.2.2.2.2.2.2.1 a_own res.2.2.2.2.2.2.2.2.1 res.2.2.2.2.2.2.2.2.2.1 res.2.2.2.2.2.2.2.2.2.2 a_plc)) t.heap) (Aw ad 124 s.heap.size)) args s 0 0 (Aw ad 124 s.heap.size)
set_option maxHeartbeats 4000000 in
set_option maxRecDepth 100000 in
theorem ke_X5_readRest {p : Program} {l : Launch} {e : Env} {s : State} {m : MethodId} {args : Array Value} {below : List Frame} {meth : Method} {c : Code} {D : va_G} {ad : Nat → Nat} {y : Nat → ClassId} {adE adK adV : Nat → Nat} {tkA swA : Nat} (C0 : CXT wsX5_readRest cX5_readRest RX5 2 (some .boolean) D (tyL y) (STC ad adE adK adV tkA swA) p s m args meth c) {m_out : Int32} {t_draft : Nat} {m_tlen : Int32} {a_bytes : Nat → Int32} {m_nsize : Int32} {m_drafted : Int32} {a_letters : Nat → Int32} {a_nlen : Nat → Int32} {t_texts : Nat → Nat} {m_here : Int32} {m_fkind : Int32} {m_fplace : Int32} {m_toks : Int32} {t_types : Nat → Nat} {a_starts : Nat → Int32} {a_tlens : Nat → Int32} {m_heard : Int32} {m_qsize : Int32} {m_wayKnown : Int32} {m_way : Int32} {m_qKnown : Int32} {m_lineKnown : Int32} {m_nodes : Int32} {m_lsize : Int32} {a_tails : Nat → Int32} {a_heads : Nat → Int32} {a_gaps : Nat → Int32} {a_least : Nat → Int32} {m_csize : Int32} {a_ctails : Nat → Int32} {a_cheads : Nat → Int32} {a_cgaps : Nat → Int32} {a_leftOut : Nat → Int32} {a_qrow : Nat → Int32} {a_line : Nat → Int32} {a_tsize : Nat → Int32} {t_word : Nat → Nat} {a_own : Nat → Int32} {a_oth : Nat → Int32} {a_fst : Nat → Int32} {a_snd : Nat → Int32} {a_plc : Nat → Int32} {p1 : Nat} {res : Int32 × Int32 × (Nat → Int32) × (Nat → Int32) × Int32 × Int32 × Int32 × (Nat → Nat) × (Nat → Int32) × (Nat → Int32) × (Nat → Int32)} (hf : f_X5_readRest a_bytes m_drafted a_letters a_nlen m_here m_fkind m_fplace t_types a_starts a_tlens t_word a_own a_oth a_fst a_snd p1 = some res) {H : Heap} {locs : List Loc} {ls : Array Slot} (hw : Wo D ad (Aw ad 124 s.heap.size) (eC ad adE y m_out t_draft m_tlen a_bytes m_nsize m_drafted a_letters a_nlen t_texts m_here m_fkind m_fplace m_toks t_types a_starts a_tlens m_heard m_qsize m_wayKnown m_way m_qKnown m_lineKnown m_nodes m_lsize a_tails a_heads a_gaps a_least m_csize a_ctails a_cheads a_cgaps a_leftOut a_qrow a_line a_tsize t_word a_own a_oth a_fst a_snd a_plc) s.heap H locs) (hl : lv_has ls 2 [(0, .ref (ad 7)), (1, .ref (ad (40 + p1)))]) : W p l e rm_X5_readRest s m args below meth c H locs 0 0 (QM_X5_readRest below args s D ad y adE (m_out) (t_draft) (m_tlen) (a_bytes) (m_nsize) (t_texts) (m_toks) (t_types) (a_starts) (a_tlens) (m_heard) (m_qsize) (m_wayKnown) (m_way) (m_qKnown) (m_lineKnown) (m_nodes) (m_lsize) (a_tails) (a_heads) (a_gaps) (a_least) (m_csize) (a_ctails) (a_cheads) (a_cgaps) (a_leftOut) (a_qrow) (a_line) (a_tsize) (a_own) (a_plc) res) (F0 m 0 ls []) := by
  obtain ⟨hx, hb, hr, hml, hown, hts, hlocks, hK, hst⟩ := id C0
  have i_X5 : ∀ w ∈ u_ws RX5 TX5 6, w ∈ wsX5_readRest := by decide +kernel
  have L_12 := hts (.fieldLink RX5 12 "CaseOrder$Reader" "tokens" "LCaseOrder$Tokens;") (by decide +kernel)
  have i_X10 : ∀ w ∈ u_ws RX10 TX10 4, w ∈ wsX5_readRest := by decide +kernel
  have L_18 := hts (.fieldLink RX5 18 "CaseOrder$Reader" "here" "I") (by decide +kernel)
  have i_X6 : ∀ w ∈ u_ws RX6 TX6 6, w ∈ wsX5_readRest := by decide +kernel
  have L_110 := hts (.fieldLink RX5 110 "CaseOrder$Saying" "word" "LCaseOrder$Token;") (by decide +kernel)
  have L_113 := hts (.fieldLink RX5 113 "CaseOrder$Token" "kind" "I") (by decide +kernel)
  have L_116 := hts (.fieldLink RX5 116 "CaseOrder$1" "$SwitchMap$CaseOrder$Token" "[I") (by decide +kernel)
  unfold f_X5_readRest at hf
  refine lv_aload_n hx hb dX5_readRest_0 rfl (lv_at hl 1 rfl) ?_
  refine lv_aload_n hx hb dX5_readRest_1 rfl (lv_at hl 0 rfl) ?_
  refine g_get hx hb hts i_X5 hown hK hw 7 eC_c7 rfl 0 (by decide) L_12 (fun _ h => h) rfl dX5_readRest_2 ?_
  refine g_getN hx hb hts i_X10 hown hK hw 8 eC_c8 rfl 0 (by decide) (sC_nw (w := .fieldLinkNest RX5 82 "CaseOrder$Tokens" "types" "[LCaseOrder$Token;" "CaseOrder") (by decide) rfl hst) (fun _ h => h) rfl dX5_readRest_5 ?_
  refine lv_aload_n hx hb dX5_readRest_8 rfl (lv_at hl 0 rfl) ?_
  refine g_get hx hb hts i_X5 hown hK hw 7 eC_c7 rfl 3 (by decide) L_18 (fun _ h => h) rfl dX5_readRest_9 ?_
  obtain ⟨g25, hf⟩ := gIn_some hf
  refine g_aald hx hb hK hw 9 6 eC_c9 rfl g25 dX5_readRest_12 rfl ?_
  obtain ⟨g26, hf⟩ := gN_some hf
  refine g_put (ty := (.object "CaseOrder$Token")) hx hb hts i_X6 tyX6 tyX6_ok nmX6 hown hK hw (40 + p1) (eC_S g26) rfl 0 (by decide) L_110 (fun _ h => h) rfl (by decide +kernel) rfl rfl (Nat.le_of_ble_eq_true rfl) dX5_readRest_13 (fun H locs hw => ?_)
  rw [eC_sS0 g26] at hw
  have hw : Wo D ad (Aw ad 124 s.heap.size) (eC ad adE y m_out t_draft m_tlen a_bytes m_nsize m_drafted a_letters a_nlen t_texts m_here m_fkind m_fplace m_toks t_types a_starts a_tlens m_heard m_qsize m_wayKnown m_way m_qKnown m_lineKnown m_nodes m_lsize a_tails a_heads a_gaps a_least m_csize a_ctails a_cheads a_cgaps a_leftOut a_qrow a_line a_tsize (va_up t_word p1 (t_types (Int32.toNatClampNeg m_here))) a_own a_oth a_fst a_snd a_plc) s.heap H locs := hw
  refine lv_aload_n hx hb dX5_readRest_16 rfl (lv_at hl 1 rfl) ?_
  refine g_get hx hb hts i_X6 hown hK hw (40 + p1) (eC_S g26) rfl 0 (by decide) L_110 (fun _ h => h) rfl dX5_readRest_17 ?_
  obtain ⟨g27, hf⟩ := gN_some hf
  refine vk_getf hx hb (sC_kind g27 hst) hw.2.2 hown L_113 (fun _ h => h) dX5_readRest_20 ?_
  refine lv_iconst (v := (-1)) hx hb dX5_readRest_23 (by decide) ?_
  refine lv_icmp_ne (tgt := 33) hx hb dX5_readRest_24 (by decide) (fun c28 => ?_) (fun c28 => ?_)
  · have hf := it_n c28 hf
    refine lv_aload_n hx hb dX5_readRest_33 rfl (lv_at hl 0 rfl) ?_
    obtain ⟨q29, hq29, hf⟩ := bd hf
    refine g_Vi (As := []) (rest := []) ⟨hx, hb, hml, hown, hts⟩ (k_X5_pass hq29) (cwV 0 hts gX5_readRest_X5_pass rfl rfl rfl (by decide +kernel) ⟨Nat.le_of_ble_eq_true rfl, Nat.le_of_ble_eq_true rfl⟩) STC_ok hst hK hw (eC_len.trans eC_len.symm) eC_c7 rfl rfl hl.1 rfl (Nat.le_of_ble_eq_true rfl) dX5_readRest_34 ⟨Nat.zero_le _, Nat.zero_le _⟩ (fun H locs hw => ?_)
    have hw : Wo D ad (Aw ad 124 s.heap.size) (eC ad adE y m_out t_draft m_tlen a_bytes m_nsize m_drafted a_letters a_nlen t_texts q29.2 m_fkind m_fplace m_toks t_types a_starts a_tlens m_heard m_qsize m_wayKnown m_way m_qKnown m_lineKnown m_nodes m_lsize a_tails a_heads a_gaps a_least m_csize a_ctails a_cheads a_cgaps a_leftOut a_qrow a_line a_tsize (va_up t_word p1 (t_types (Int32.toNatClampNeg m_here))) a_own a_oth a_fst a_snd a_plc) s.heap H locs := hw
    refine lv_pop hx hb dX5_readRest_37 rfl ?_
    refine va_gets hx hb (sC_SW hst) hw.2.2 hown L_116 (fun _ h => h) dX5_readRest_38 ?_
    refine lv_aload_n hx hb dX5_readRest_41 rfl (lv_at hl 1 rfl) ?_
    obtain ⟨g30, hf⟩ := gN_some hf
    refine g_get hx hb hts i_X6 hown hK hw (40 + p1) (eC_S g30) rfl 0 (by decide) L_110 (fun _ h => h) rfl dX5_readRest_42 ?_
    obtain ⟨g31, hf⟩ := gN_some hf
    obtain ⟨q32, hq32, hf⟩ := bd hf
    refine g_Ui (As := []) (rest := [.ref swA]) ⟨hx, hb, hml, hown, hts⟩ (k_Jx29ce0_ordinal_8abf5 hq32) (va_cwU 0 hts gX5_readRest_Jx29ce0_ordinal_8abf5_u121X9 rfl rfl rfl rfl (by decide +kernel) ⟨Nat.le_of_ble_eq_true rfl, Nat.le_of_ble_eq_true rfl⟩) STC_ok hst hK hw (eC_len.trans eC_len.symm) (sC_O g31 hst) rfl hl.1 rfl (Nat.le_of_ble_eq_true rfl) dX5_readRest_45 ⟨Nat.zero_le _, Nat.zero_le _⟩ (fun H locs hw => ?_)
    obtain ⟨g33, hf⟩ := gIn_some hf
    refine va_ti hx hb (sC_SWa hst) hw.2.2 g33 rfl dX5_readRest_48 ?_
    by_cases c34 : (swM (Int32.toNatClampNeg q32)) = 2
    · have hf := it_p c34 hf
      refine lv_tableIn (tgt := 88) hx hb dX5_readRest_49 (by rw [c34]; decide) (by rw [c34]; decide) (by rw [c34]; rfl) (by decide) ?_
      refine lv_aload_n hx hb dX5_readRest_88 rfl (lv_at hl 0 rfl) ?_
      refine lv_aload_n hx hb dX5_readRest_89 rfl (lv_at hl 1 rfl) ?_
      refine lv_iconst (v := 0) hx hb dX5_readRest_90 (by decide) ?_
      obtain ⟨q35, hq35, hf⟩ := bd hf
      refine g_Vi (As := [.ref (ad (40 + p1)), .int 0]) (rest := []) ⟨hx, hb, hml, hown, hts⟩ (k_X5_readFirst hq35) (cwV 2 hts gX5_readRest_X5_readFirst rfl rfl rfl (by decide +kernel) ⟨Nat.le_of_ble_eq_true rfl, Nat.le_of_ble_eq_true rfl⟩) STC_ok hst hK hw (eC_len.trans eC_len.symm) eC_c7 rfl rfl hl.1 rfl (Nat.le_of_ble_eq_true rfl) dX5_readRest_91 ⟨Nat.zero_le _, Nat.zero_le _⟩ (fun H locs hw => ?_)
      have hw : Wo D ad (Aw ad 124 s.heap.size) (eC ad adE y m_out t_draft m_tlen a_bytes m_nsize m_drafted a_letters a_nlen t_texts q35.2.1 q35.2.2.1 q35.2.2.2.1 m_toks t_types a_starts a_tlens m_heard m_qsize m_wayKnown m_way m_qKnown m_lineKnown m_nodes m_lsize a_tails a_heads a_gaps a_least m_csize a_ctails a_cheads a_cgaps a_leftOut a_qrow a_line a_tsize (va_up t_word p1 (t_types (Int32.toNatClampNeg m_here))) a_own a_oth q35.2.2.2.2 a_snd a_plc) s.heap H locs := hw
      refine lv_if_eq (tgt := 116) hx hb dX5_readRest_94 (by decide) (fun c36 => ?_) (fun c36 => ?_)
      · have hf := it_p c36 hf
        refine lv_iconst (v := 0) hx hb dX5_readRest_116 (by decide) ?_
        obtain rfl := so hf
        exact W.zret (v := 0) hx hb hr rfl (fun t ht _ => g_end hw t ht) hw.2.2.2.2 dX5_readRest_117
      · have hf := it_n c36 hf
        refine lv_aload_n hx hb dX5_readRest_97 rfl (lv_at hl 0 rfl) ?_
        refine lv_aload_n hx hb dX5_readRest_98 rfl (lv_at hl 1 rfl) ?_
        obtain ⟨q37, hq37, hf⟩ := bd hf
        refine g_Vi (As := [.ref (ad (40 + p1))]) (rest := []) ⟨hx, hb, hml, hown, hts⟩ (k_X5_readSecond hq37) (cwV 1 hts gX5_readRest_X5_readSecond rfl rfl rfl (by decide +kernel) ⟨Nat.le_of_ble_eq_true rfl, Nat.le_of_ble_eq_true rfl⟩) STC_ok hst hK hw (eC_len.trans eC_len.symm) eC_c7 rfl rfl hl.1 rfl (Nat.le_of_ble_eq_true rfl) dX5_readRest_99 ⟨Nat.zero_le _, Nat.zero_le _⟩ (fun H locs hw => ?_)
        have hw : Wo D ad (Aw ad 124 s.heap.size) (eC ad adE y m_out t_draft m_tlen a_bytes m_nsize m_drafted a_letters a_nlen t_texts q37.2.1 q37.2.2.1 q37.2.2.2.1 m_toks t_types a_starts a_tlens m_heard m_qsize m_wayKnown m_way m_qKnown m_lineKnown m_nodes m_lsize a_tails a_heads a_gaps a_least m_csize a_ctails a_cheads a_cgaps a_leftOut a_qrow a_line a_tsize (va_up t_word p1 (t_types (Int32.toNatClampNeg m_here))) a_own a_oth q35.2.2.2.2 q37.2.2.2.2 a_plc) s.heap H locs := hw
        refine lv_if_eq (tgt := 116) hx hb dX5_readRest_102 (by decide) (fun c38 => ?_) (fun c38 => ?_)
        · have hf := it_p c38 hf
          refine lv_iconst (v := 0) hx hb dX5_readRest_116 (by decide) ?_
          obtain rfl := so hf
          exact W.zret (v := 0) hx hb hr rfl (fun t ht _ => g_end hw t ht) hw.2.2.2.2 dX5_readRest_117
        · have hf := it_n c38 hf
          refine lv_aload_n hx hb dX5_readRest_105 rfl (lv_at hl 0 rfl) ?_
          obtain ⟨q39, hq39, hf⟩ := bd hf
          refine g_Vi (As := []) (rest := []) ⟨hx, hb, hml, hown, hts⟩ (k_X5_readStop hq39) (cwV 0 hts gX5_readRest_X5_readStop rfl rfl rfl (by decide +kernel) ⟨Nat.le_of_ble_eq_true rfl, Nat.le_of_ble_eq_true rfl⟩) STC_ok hst hK hw (eC_len.trans eC_len.symm) eC_c7 rfl rfl hl.1 rfl (Nat.le_of_ble_eq_true rfl) dX5_readRest_106 ⟨Nat.zero_le _, Nat.zero_le _⟩ (fun H locs hw => ?_)
          have hw : Wo D ad (Aw ad 124 s.heap.size) (eC ad adE y m_out t_draft m_tlen a_bytes m_nsize m_drafted a_letters a_nlen t_texts q39.2.1 q39.2.2.1 q39.2.2.2 m_toks t_types a_starts a_tlens m_heard m_qsize m_wayKnown m_way m_qKnown m_lineKnown m_nodes m_lsize a_tails a_heads a_gaps a_least m_csize a_ctails a_cheads a_cgaps a_leftOut a_qrow a_line a_tsize (va_up t_word p1 (t_types (Int32.toNatClampNeg m_here))) a_own a_oth q35.2.2.2.2 q37.2.2.2.2 a_plc) s.heap H locs := hw
          refine lv_if_eq (tgt := 116) hx hb dX5_readRest_109 (by decide) (fun c40 => ?_) (fun c40 => ?_)
          · have hf := it_p c40 hf
            refine lv_iconst (v := 0) hx hb dX5_readRest_116 (by decide) ?_
            obtain rfl := so hf
            exact W.zret (v := 0) hx hb hr rfl (fun t ht _ => g_end hw t ht) hw.2.2.2.2 dX5_readRest_117
          · have hf := it_n c40 hf
            refine lv_iconst (v := 1) hx hb dX5_readRest_112 (by decide) ?_
            refine lv_goto (tgt := 117) hx hb dX5_readRest_113 (by decide) ?_
            obtain rfl := so hf
            exact W.zret (v := 1) hx hb hr rfl (fun t ht _ => g_end hw t ht) hw.2.2.2.2 dX5_readRest_117
    have hf := it_n c34 hf
    by_cases c41 : (swM (Int32.toNatClampNeg q32)) = 5
    · have hf := it_p c41 hf
      refine lv_tableIn (tgt := 118) hx hb dX5_readRest_49 (by rw [c41]; decide) (by rw [c41]; decide) (by rw [c41]; rfl) (by decide) ?_
      refine lv_aload_n hx hb dX5_readRest_118 rfl (lv_at hl 0 rfl) ?_
      refine lv_aload_n hx hb dX5_readRest_119 rfl (lv_at hl 1 rfl) ?_
      refine lv_iconst (v := 0) hx hb dX5_readRest_120 (by decide) ?_
      obtain ⟨q42, hq42, hf⟩ := bd hf
      refine g_Vi (As := [.ref (ad (40 + p1)), .int 0]) (rest := []) ⟨hx, hb, hml, hown, hts⟩ (k_X5_readFirst hq42) (cwV 2 hts gX5_readRest_X5_readFirst rfl rfl rfl (by decide +kernel) ⟨Nat.le_of_ble_eq_true rfl, Nat.le_of_ble_eq_true rfl⟩) STC_ok hst hK hw (eC_len.trans eC_len.symm) eC_c7 rfl rfl hl.1 rfl (Nat.le_of_ble_eq_true rfl) dX5_readRest_121 ⟨Nat.zero_le _, Nat.zero_le _⟩ (fun H locs hw => ?_)
      have hw : Wo D ad (Aw ad 124 s.heap.size) (eC ad adE y m_out t_draft m_tlen a_bytes m_nsize m_drafted a_letters a_nlen t_texts q42.2.1 q42.2.2.1 q42.2.2.2.1 m_toks t_types a_starts a_tlens m_heard m_qsize m_wayKnown m_way m_qKnown m_lineKnown m_nodes m_lsize a_tails a_heads a_gaps a_least m_csize a_ctails a_cheads a_cgaps a_leftOut a_qrow a_line a_tsize (va_up t_word p1 (t_types (Int32.toNatClampNeg m_here))) a_own a_oth q42.2.2.2.2 a_snd a_plc) s.heap H locs := hw
      refine lv_if_eq (tgt := 146) hx hb dX5_readRest_124 (by decide) (fun c43 => ?_) (fun c43 => ?_)
      · have hf := it_p c43 hf
        refine lv_iconst (v := 0) hx hb dX5_readRest_146 (by decide) ?_
        obtain rfl := so hf
        exact W.zret (v := 0) hx hb hr rfl (fun t ht _ => g_end hw t ht) hw.2.2.2.2 dX5_readRest_147
      · have hf := it_n c43 hf
        refine lv_aload_n hx hb dX5_readRest_127 rfl (lv_at hl 0 rfl) ?_
        refine lv_aload_n hx hb dX5_readRest_128 rfl (lv_at hl 1 rfl) ?_
        obtain ⟨q44, hq44, hf⟩ := bd hf
        refine g_Vi (As := [.ref (ad (40 + p1))]) (rest := []) ⟨hx, hb, hml, hown, hts⟩ (k_X5_readSecondIfAny hq44) (cwV 1 hts gX5_readRest_X5_readSecondIfAny rfl rfl rfl (by decide +kernel) ⟨Nat.le_of_ble_eq_true rfl, Nat.le_of_ble_eq_true rfl⟩) STC_ok hst hK hw (eC_len.trans eC_len.symm) eC_c7 rfl rfl hl.1 rfl (Nat.le_of_ble_eq_true rfl) dX5_readRest_129 ⟨Nat.zero_le _, Nat.zero_le _⟩ (fun H locs hw => ?_)
        have hw : Wo D ad (Aw ad 124 s.heap.size) (eC ad adE y m_out t_draft m_tlen a_bytes m_nsize m_drafted a_letters a_nlen t_texts q44.2.1 q44.2.2.1 q44.2.2.2.1 m_toks t_types a_starts a_tlens m_heard m_qsize m_wayKnown m_way m_qKnown m_lineKnown m_nodes m_lsize a_tails a_heads a_gaps a_least m_csize a_ctails a_cheads a_cgaps a_leftOut a_qrow a_line a_tsize (va_up t_word p1 (t_types (Int32.toNatClampNeg m_here))) a_own a_oth q42.2.2.2.2 q44.2.2.2.2 a_plc) s.heap H locs := hw
        refine lv_if_eq (tgt := 146) hx hb dX5_readRest_132 (by decide) (fun c45 => ?_) (fun c45 => ?_)
        · have hf := it_p c45 hf
          refine lv_iconst (v := 0) hx hb dX5_readRest_146 (by decide) ?_
          obtain rfl := so hf
          exact W.zret (v := 0) hx hb hr rfl (fun t ht _ => g_end hw t ht) hw.2.2.2.2 dX5_readRest_147
        · have hf := it_n c45 hf
          refine lv_aload_n hx hb dX5_readRest_135 rfl (lv_at hl 0 rfl) ?_
          obtain ⟨q46, hq46, hf⟩ := bd hf
          refine g_Vi (As := []) (rest := []) ⟨hx, hb, hml, hown, hts⟩ (k_X5_readStop hq46) (cwV 0 hts gX5_readRest_X5_readStop rfl rfl rfl (by decide +kernel) ⟨Nat.le_of_ble_eq_true rfl, Nat.le_of_ble_eq_true rfl⟩) STC_ok hst hK hw (eC_len.trans eC_len.symm) eC_c7 rfl rfl hl.1 rfl (Nat.le_of_ble_eq_true rfl) dX5_readRest_136 ⟨Nat.zero_le _, Nat.zero_le _⟩ (fun H locs hw => ?_)
          have hw : Wo D ad (Aw ad 124 s.heap.size) (eC ad adE y m_out t_draft m_tlen a_bytes m_nsize m_drafted a_letters a_nlen t_texts q46.2.1 q46.2.2.1 q46.2.2.2 m_toks t_types a_starts a_tlens m_heard m_qsize m_wayKnown m_way m_qKnown m_lineKnown m_nodes m_lsize a_tails a_heads a_gaps a_least m_csize a_ctails a_cheads a_cgaps a_leftOut a_qrow a_line a_tsize (va_up t_word p1 (t_types (Int32.toNatClampNeg m_here))) a_own a_oth q42.2.2.2.2 q44.2.2.2.2 a_plc) s.heap H locs := hw
          refine lv_if_eq (tgt := 146) hx hb dX5_readRest_139 (by decide) (fun c47 => ?_) (fun c47 => ?_)
          · have hf := it_p c47 hf
            refine lv_iconst (v := 0) hx hb dX5_readRest_146 (by decide) ?_
            obtain rfl := so hf
            exact W.zret (v := 0) hx hb hr rfl (fun t ht _ => g_end hw t ht) hw.2.2.2.2 dX5_readRest_147
          · have hf := it_n c47 hf
            refine lv_iconst (v := 1) hx hb dX5_readRest_142 (by decide) ?_
            refine lv_goto (tgt := 147) hx hb dX5_readRest_143 (by decide) ?_
            obtain rfl := so hf
            exact W.zret (v := 1) hx hb hr rfl (fun t ht _ => g_end hw t ht) hw.2.2.2.2 dX5_readRest_147
    have hf := it_n c41 hf
    by_cases c48 : (swM (Int32.toNatClampNeg q32)) = 6
    · have hf := it_p c48 hf
      refine lv_tableIn (tgt := 148) hx hb dX5_readRest_49 (by rw [c48]; decide) (by rw [c48]; decide) (by rw [c48]; rfl) (by decide) ?_
      refine lv_aload_n hx hb dX5_readRest_148 rfl (lv_at hl 0 rfl) ?_
      refine lv_aload_n hx hb dX5_readRest_149 rfl (lv_at hl 1 rfl) ?_
      obtain ⟨q49, hq49, hf⟩ := bd hf
      refine g_Vi (As := [.ref (ad (40 + p1))]) (rest := []) ⟨hx, hb, hml, hown, hts⟩ (k_X5_readOther hq49) (cwV 1 hts gX5_readRest_X5_readOther rfl rfl rfl (by decide +kernel) ⟨Nat.le_of_ble_eq_true rfl, Nat.le_of_ble_eq_true rfl⟩) STC_ok hst hK hw (eC_len.trans eC_len.symm) eC_c7 rfl rfl hl.1 rfl (Nat.le_of_ble_eq_true rfl) dX5_readRest_150 ⟨Nat.zero_le _, Nat.zero_le _⟩ (fun H locs hw => ?_)
      have hw : Wo D ad (Aw ad 124 s.heap.size) (eC ad adE y m_out t_draft m_tlen a_bytes m_nsize q49.2.1 q49.2.2.1 q49.2.2.2.1 t_texts q49.2.2.2.2.1 q49.2.2.2.2.2.1 q49.2.2.2.2.2.2.1 m_toks t_types a_starts a_tlens m_heard m_qsize m_wayKnown m_way m_qKnown m_lineKnown m_nodes m_lsize a_tails a_heads a_gaps a_least m_csize a_ctails a_cheads a_cgaps a_leftOut a_qrow a_line a_tsize (va_up t_word p1 (t_types (Int32.toNatClampNeg m_here))) a_own q49.2.2.2.2.2.2.2 a_fst a_snd a_plc) s.heap H locs := hw
      refine lv_if_eq (tgt := 183) hx hb dX5_readRest_153 (by decide) (fun c50 => ?_) (fun c50 => ?_)
      · have hf := it_p c50 hf
        refine lv_iconst (v := 0) hx hb dX5_readRest_183 (by decide) ?_
        obtain rfl := so hf
        exact W.zret (v := 0) hx hb hr rfl (fun t ht _ => g_end hw t ht) hw.2.2.2.2 dX5_readRest_184
      · have hf := it_n c50 hf
        refine lv_aload_n hx hb dX5_readRest_156 rfl (lv_at hl 0 rfl) ?_
        refine lv_aload_n hx hb dX5_readRest_157 rfl (lv_at hl 1 rfl) ?_
        obtain ⟨q51, hq51, hf⟩ := bd hf
        refine g_Vi (As := [.ref (ad (40 + p1))]) (rest := []) ⟨hx, hb, hml, hown, hts⟩ (k_X5_readGapIfAny hq51) (cwV 1 hts gX5_readRest_X5_readGapIfAny rfl rfl rfl (by decide +kernel) ⟨Nat.le_of_ble_eq_true rfl, Nat.le_of_ble_eq_true rfl⟩) STC_ok hst hK hw (eC_len.trans eC_len.symm) eC_c7 rfl rfl hl.1 rfl (Nat.le_of_ble_eq_true rfl) dX5_readRest_158 ⟨Nat.zero_le _, Nat.zero_le _⟩ (fun H locs hw => ?_)
        have hw : Wo D ad (Aw ad 124 s.heap.size) (eC ad adE y m_out t_draft m_tlen a_bytes m_nsize q49.2.1 q49.2.2.1 q49.2.2.2.1 t_texts q51.2.1 q51.2.2.1 q51.2.2.2.1 m_toks t_types a_starts a_tlens m_heard m_qsize m_wayKnown m_way m_qKnown m_lineKnown m_nodes m_lsize a_tails a_heads a_gaps a_least m_csize a_ctails a_cheads a_cgaps a_leftOut a_qrow a_line a_tsize (va_up t_word p1 (t_types (Int32.toNatClampNeg m_here))) a_own q49.2.2.2.2.2.2.2 q51.2.2.2.2 a_snd a_plc) s.heap H locs := hw
        refine lv_if_eq (tgt := 183) hx hb dX5_readRest_161 (by decide) (fun c52 => ?_) (fun c52 => ?_)
        · have hf := it_p c52 hf
          refine lv_iconst (v := 0) hx hb dX5_readRest_183 (by decide) ?_
          obtain rfl := so hf
          exact W.zret (v := 0) hx hb hr rfl (fun t ht _ => g_end hw t ht) hw.2.2.2.2 dX5_readRest_184
        · have hf := it_n c52 hf
          refine lv_aload_n hx hb dX5_readRest_164 rfl (lv_at hl 0 rfl) ?_
          refine lv_aload_n hx hb dX5_readRest_165 rfl (lv_at hl 1 rfl) ?_
          obtain ⟨q53, hq53, hf⟩ := bd hf
          refine g_Vi (As := [.ref (ad (40 + p1))]) (rest := []) ⟨hx, hb, hml, hown, hts⟩ (k_X5_readSecondIfAny hq53) (cwV 1 hts gX5_readRest_X5_readSecondIfAny rfl rfl rfl (by decide +kernel) ⟨Nat.le_of_ble_eq_true rfl, Nat.le_of_ble_eq_true rfl⟩) STC_ok hst hK hw (eC_len.trans eC_len.symm) eC_c7 rfl rfl hl.1 rfl (Nat.le_of_ble_eq_true rfl) dX5_readRest_166 ⟨Nat.zero_le _, Nat.zero_le _⟩ (fun H locs hw => ?_)
          have hw : Wo D ad (Aw ad 124 s.heap.size) (eC ad adE y m_out t_draft m_tlen a_bytes m_nsize q49.2.1 q49.2.2.1 q49.2.2.2.1 t_texts q53.2.1 q53.2.2.1 q53.2.2.2.1 m_toks t_types a_starts a_tlens m_heard m_qsize m_wayKnown m_way m_qKnown m_lineKnown m_nodes m_lsize a_tails a_heads a_gaps a_least m_csize a_ctails a_cheads a_cgaps a_leftOut a_qrow a_line a_tsize (va_up t_word p1 (t_types (Int32.toNatClampNeg m_here))) a_own q49.2.2.2.2.2.2.2 q51.2.2.2.2 q53.2.2.2.2 a_plc) s.heap H locs := hw
          refine lv_if_eq (tgt := 183) hx hb dX5_readRest_169 (by decide) (fun c54 => ?_) (fun c54 => ?_)
          · have hf := it_p c54 hf
            refine lv_iconst (v := 0) hx hb dX5_readRest_183 (by decide) ?_
            obtain rfl := so hf
            exact W.zret (v := 0) hx hb hr rfl (fun t ht _ => g_end hw t ht) hw.2.2.2.2 dX5_readRest_184
          · have hf := it_n c54 hf
            refine lv_aload_n hx hb dX5_readRest_172 rfl (lv_at hl 0 rfl) ?_
            obtain ⟨q55, hq55, hf⟩ := bd hf
            refine g_Vi (As := []) (rest := []) ⟨hx, hb, hml, hown, hts⟩ (k_X5_readStop hq55) (cwV 0 hts gX5_readRest_X5_readStop rfl rfl rfl (by decide +kernel) ⟨Nat.le_of_ble_eq_true rfl, Nat.le_of_ble_eq_true rfl⟩) STC_ok hst hK hw (eC_len.trans eC_len.symm) eC_c7 rfl rfl hl.1 rfl (Nat.le_of_ble_eq_true rfl) dX5_readRest_173 ⟨Nat.zero_le _, Nat.zero_le _⟩ (fun H locs hw => ?_)
            have hw : Wo D ad (Aw ad 124 s.heap.size) (eC ad adE y m_out t_draft m_tlen a_bytes m_nsize q49.2.1 q49.2.2.1 q49.2.2.2.1 t_texts q55.2.1 q55.2.2.1 q55.2.2.2 m_toks t_types a_starts a_tlens m_heard m_qsize m_wayKnown m_way m_qKnown m_lineKnown m_nodes m_lsize a_tails a_heads a_gaps a_least m_csize a_ctails a_cheads a_cgaps a_leftOut a_qrow a_line a_tsize (va_up t_word p1 (t_types (Int32.toNatClampNeg m_here))) a_own q49.2.2.2.2.2.2.2 q51.2.2.2.2 q53.2.2.2.2 a_plc) s.heap H locs := hw
            refine lv_if_eq (tgt := 183) hx hb dX5_readRest_176 (by decide) (fun c56 => ?_) (fun c56 => ?_)
            · have hf := it_p c56 hf
              refine lv_iconst (v := 0) hx hb dX5_readRest_183 (by decide) ?_
              obtain rfl := so hf
              exact W.zret (v := 0) hx hb hr rfl (fun t ht _ => g_end hw t ht) hw.2.2.2.2 dX5_readRest_184
            · have hf := it_n c56 hf
              refine lv_iconst (v := 1) hx hb dX5_readRest_179 (by decide) ?_
              refine lv_goto (tgt := 184) hx hb dX5_readRest_180 (by decide) ?_
              obtain rfl := so hf
              exact W.zret (v := 1) hx hb hr rfl (fun t ht _ => g_end hw t ht) hw.2.2.2.2 dX5_readRest_184
    have hf := it_n c48 hf
    by_cases c57 : (swM (Int32.toNatClampNeg q32)) = 7
    · have hf := it_p c57 hf
      refine lv_tableIn (tgt := 185) hx hb dX5_readRest_49 (by rw [c57]; decide) (by rw [c57]; decide) (by rw [c57]; rfl) (by decide) ?_
      refine lv_aload_n hx hb dX5_readRest_185 rfl (lv_at hl 0 rfl) ?_
      refine lv_aload_n hx hb dX5_readRest_186 rfl (lv_at hl 1 rfl) ?_
      obtain ⟨q58, hq58, hf⟩ := bd hf
      refine g_Vi (As := [.ref (ad (40 + p1))]) (rest := []) ⟨hx, hb, hml, hown, hts⟩ (k_X5_readOther hq58) (cwV 1 hts gX5_readRest_X5_readOther rfl rfl rfl (by decide +kernel) ⟨Nat.le_of_ble_eq_true rfl, Nat.le_of_ble_eq_true rfl⟩) STC_ok hst hK hw (eC_len.trans eC_len.symm) eC_c7 rfl rfl hl.1 rfl (Nat.le_of_ble_eq_true rfl) dX5_readRest_187 ⟨Nat.zero_le _, Nat.zero_le _⟩ (fun H locs hw => ?_)
      have hw : Wo D ad (Aw ad 124 s.heap.size) (eC ad adE y m_out t_draft m_tlen a_bytes m_nsize q58.2.1 q58.2.2.1 q58.2.2.2.1 t_texts q58.2.2.2.2.1 q58.2.2.2.2.2.1 q58.2.2.2.2.2.2.1 m_toks t_types a_starts a_tlens m_heard m_qsize m_wayKnown m_way m_qKnown m_lineKnown m_nodes m_lsize a_tails a_heads a_gaps a_least m_csize a_ctails a_cheads a_cgaps a_leftOut a_qrow a_line a_tsize (va_up t_word p1 (t_types (Int32.toNatClampNeg m_here))) a_own q58.2.2.2.2.2.2.2 a_fst a_snd a_plc) s.heap H locs := hw
      refine lv_if_eq (tgt := 204) hx hb dX5_readRest_190 (by decide) (fun c59 => ?_) (fun c59 => ?_)
      · have hf := it_p c59 hf
        refine lv_iconst (v := 0) hx hb dX5_readRest_204 (by decide) ?_
        obtain rfl := so hf
        exact W.zret (v := 0) hx hb hr rfl (fun t ht _ => g_end hw t ht) hw.2.2.2.2 dX5_readRest_205
      · have hf := it_n c59 hf
        refine lv_aload_n hx hb dX5_readRest_193 rfl (lv_at hl 0 rfl) ?_
        obtain ⟨q60, hq60, hf⟩ := bd hf
        refine g_Vi (As := []) (rest := []) ⟨hx, hb, hml, hown, hts⟩ (k_X5_readStop hq60) (cwV 0 hts gX5_readRest_X5_readStop rfl rfl rfl (by decide +kernel) ⟨Nat.le_of_ble_eq_true rfl, Nat.le_of_ble_eq_true rfl⟩) STC_ok hst hK hw (eC_len.trans eC_len.symm) eC_c7 rfl rfl hl.1 rfl (Nat.le_of_ble_eq_true rfl) dX5_readRest_194 ⟨Nat.zero_le _, Nat.zero_le _⟩ (fun H locs hw => ?_)
        have hw : Wo D ad (Aw ad 124 s.heap.size) (eC ad adE y m_out t_draft m_tlen a_bytes m_nsize q58.2.1 q58.2.2.1 q58.2.2.2.1 t_texts q60.2.1 q60.2.2.1 q60.2.2.2 m_toks t_types a_starts a_tlens m_heard m_qsize m_wayKnown m_way m_qKnown m_lineKnown m_nodes m_lsize a_tails a_heads a_gaps a_least m_csize a_ctails a_cheads a_cgaps a_leftOut a_qrow a_line a_tsize (va_up t_word p1 (t_types (Int32.toNatClampNeg m_here))) a_own q58.2.2.2.2.2.2.2 a_fst a_snd a_plc) s.heap H locs := hw
        refine lv_if_eq (tgt := 204) hx hb dX5_readRest_197 (by decide) (fun c61 => ?_) (fun c61 => ?_)
        · have hf := it_p c61 hf
          refine lv_iconst (v := 0) hx hb dX5_readRest_204 (by decide) ?_
          obtain rfl := so hf
          exact W.zret (v := 0) hx hb hr rfl (fun t ht _ => g_end hw t ht) hw.2.2.2.2 dX5_readRest_205
        · have hf := it_n c61 hf
          refine lv_iconst (v := 1) hx hb dX5_readRest_200 (by decide) ?_
          refine lv_goto (tgt := 205) hx hb dX5_readRest_201 (by decide) ?_
          obtain rfl := so hf
          exact W.zret (v := 1) hx hb hr rfl (fun t ht _ => g_end hw t ht) hw.2.2.2.2 dX5_readRest_205
    have hf := it_n c57 hf
    have hd : W p l e rm_X5_readRest s m args below meth c H locs 0 0 (QM_X5_readRest below args s D ad y adE (m_out) (t_draft) (m_tlen) (a_bytes) (m_nsize) (t_texts) (m_toks) (t_types) (a_starts) (a_tlens) (m_heard) (m_qsize) (m_wayKnown) (m_way) (m_qKnown) (m_lineKnown) (m_nodes) (m_lsize) (a_tails) (a_heads) (a_gaps) (a_least) (m_csize) (a_ctails) (a_cheads) (a_cgaps) (a_leftOut) (a_qrow) (a_line) (a_tsize) (a_own) (a_plc) res) (F0 m 206 ls []) := by
      refine lv_aload_n hx hb dX5_readRest_206 rfl (lv_at hl 0 rfl) ?_
      refine lv_aload_n hx hb dX5_readRest_207 rfl (lv_at hl 1 rfl) ?_
      refine lv_iconst (v := 0) hx hb dX5_readRest_208 (by decide) ?_
      obtain ⟨q62, hq62, hf⟩ := bd hf
      refine g_Vi (As := [.ref (ad (40 + p1)), .int 0]) (rest := []) ⟨hx, hb, hml, hown, hts⟩ (k_X5_readFirst hq62) (cwV 2 hts gX5_readRest_X5_readFirst rfl rfl rfl (by decide +kernel) ⟨Nat.le_of_ble_eq_true rfl, Nat.le_of_ble_eq_true rfl⟩) STC_ok hst hK hw (eC_len.trans eC_len.symm) eC_c7 rfl rfl hl.1 rfl (Nat.le_of_ble_eq_true rfl) dX5_readRest_209 ⟨Nat.zero_le _, Nat.zero_le _⟩ (fun H locs hw => ?_)
      have hw : Wo D ad (Aw ad 124 s.heap.size) (eC ad adE y m_out t_draft m_tlen a_bytes m_nsize m_drafted a_letters a_nlen t_texts q62.2.1 q62.2.2.1 q62.2.2.2.1 m_toks t_types a_starts a_tlens m_heard m_qsize m_wayKnown m_way m_qKnown m_lineKnown m_nodes m_lsize a_tails a_heads a_gaps a_least m_csize a_ctails a_cheads a_cgaps a_leftOut a_qrow a_line a_tsize (va_up t_word p1 (t_types (Int32.toNatClampNeg m_here))) a_own a_oth q62.2.2.2.2 a_snd a_plc) s.heap H locs := hw
      refine lv_if_eq (tgt := 226) hx hb dX5_readRest_212 (by decide) (fun c63 => ?_) (fun c63 => ?_)
      · have hf := it_p c63 hf
        refine lv_iconst (v := 0) hx hb dX5_readRest_226 (by decide) ?_
        obtain rfl := so hf
        exact W.zret (v := 0) hx hb hr rfl (fun t ht _ => g_end hw t ht) hw.2.2.2.2 dX5_readRest_227
      · have hf := it_n c63 hf
        refine lv_aload_n hx hb dX5_readRest_215 rfl (lv_at hl 0 rfl) ?_
        obtain ⟨q64, hq64, hf⟩ := bd hf
        refine g_Vi (As := []) (rest := []) ⟨hx, hb, hml, hown, hts⟩ (k_X5_readStop hq64) (cwV 0 hts gX5_readRest_X5_readStop rfl rfl rfl (by decide +kernel) ⟨Nat.le_of_ble_eq_true rfl, Nat.le_of_ble_eq_true rfl⟩) STC_ok hst hK hw (eC_len.trans eC_len.symm) eC_c7 rfl rfl hl.1 rfl (Nat.le_of_ble_eq_true rfl) dX5_readRest_216 ⟨Nat.zero_le _, Nat.zero_le _⟩ (fun H locs hw => ?_)
        have hw : Wo D ad (Aw ad 124 s.heap.size) (eC ad adE y m_out t_draft m_tlen a_bytes m_nsize m_drafted a_letters a_nlen t_texts q64.2.1 q64.2.2.1 q64.2.2.2 m_toks t_types a_starts a_tlens m_heard m_qsize m_wayKnown m_way m_qKnown m_lineKnown m_nodes m_lsize a_tails a_heads a_gaps a_least m_csize a_ctails a_cheads a_cgaps a_leftOut a_qrow a_line a_tsize (va_up t_word p1 (t_types (Int32.toNatClampNeg m_here))) a_own a_oth q62.2.2.2.2 a_snd a_plc) s.heap H locs := hw
        refine lv_if_eq (tgt := 226) hx hb dX5_readRest_219 (by decide) (fun c65 => ?_) (fun c65 => ?_)
        · have hf := it_p c65 hf
          refine lv_iconst (v := 0) hx hb dX5_readRest_226 (by decide) ?_
          obtain rfl := so hf
          exact W.zret (v := 0) hx hb hr rfl (fun t ht _ => g_end hw t ht) hw.2.2.2.2 dX5_readRest_227
        · have hf := it_n c65 hf
          refine lv_iconst (v := 1) hx hb dX5_readRest_222 (by decide) ?_
          refine lv_goto (tgt := 227) hx hb dX5_readRest_223 (by decide) ?_
          obtain rfl := so hf
          exact W.zret (v := 1) hx hb hr rfl (fun t ht _ => g_end hw t ht) hw.2.2.2.2 dX5_readRest_227
    by_cases c66 : (swM (Int32.toNatClampNeg q32)) = 3
    · exact lv_tableIn (tgt := 206) hx hb dX5_readRest_49 (by rw [c66]; decide) (by rw [c66]; decide) (by rw [c66]; rfl) (by decide) hd
    by_cases c67 : (swM (Int32.toNatClampNeg q32)) = 4
    · exact lv_tableIn (tgt := 206) hx hb dX5_readRest_49 (by rw [c67]; decide) (by rw [c67]; decide) (by rw [c67]; rfl) (by decide) hd
    exact lv_tableOut (tgt := 206) hx hb dX5_readRest_49 (by have nc34 := sw_ne c34 (2 : Int) (by decide); have nc41 := sw_ne c41 (5 : Int) (by decide); have nc48 := sw_ne c48 (6 : Int) (by decide); have nc57 := sw_ne c57 (7 : Int) (by decide); have nc66 := sw_ne c66 (3 : Int) (by decide); have nc67 := sw_ne c67 (4 : Int) (by decide); omega) (by decide) hd
  · have hf := it_p c28 hf
    refine lv_aload_n hx hb dX5_readRest_27 rfl (lv_at hl 0 rfl) ?_
    refine lv_iconst (v := 1) hx hb dX5_readRest_28 (by decide) ?_
    obtain ⟨q68, hq68, hf⟩ := bd hf
    refine g_Vi (As := [.int 1]) (rest := []) ⟨hx, hb, hml, hown, hts⟩ (k_X5_refuse hq68) (cwV 1 hts gX5_readRest_X5_refuse rfl rfl rfl (by decide +kernel) ⟨Nat.le_of_ble_eq_true rfl, Nat.le_of_ble_eq_true rfl⟩) STC_ok hst hK hw (eC_len.trans eC_len.symm) eC_c7 rfl rfl hl.1 rfl (Nat.le_of_ble_eq_true rfl) dX5_readRest_29 ⟨Nat.zero_le _, Nat.zero_le _⟩ (fun H locs hw => ?_)
    have hw : Wo D ad (Aw ad 124 s.heap.size) (eC ad adE y m_out t_draft m_tlen a_bytes m_nsize m_drafted a_letters a_nlen t_texts m_here q68.2.1 q68.2.2 m_toks t_types a_starts a_tlens m_heard m_qsize m_wayKnown m_way m_qKnown m_lineKnown m_nodes m_lsize a_tails a_heads a_gaps a_least m_csize a_ctails a_cheads a_cgaps a_leftOut a_qrow a_line a_tsize (va_up t_word p1 (t_types (Int32.toNatClampNeg m_here))) a_own a_oth a_fst a_snd a_plc) s.heap H locs := hw
    obtain ⟨g69, hf⟩ := gB_some hf
    obtain rfl := so hf
    exact W.zret (v := q68.1) hx hb hr (gB_n g69) (fun t ht _ => g_end hw t ht) hw.2.2.2.2 dX5_readRest_32
set_option maxHeartbeats 4000000 in
theorem k_X5_readRest {l : Launch} {D : va_G} {ad : Nat → Nat} {y : Nat → ClassId} {adE adK adV : Nat → Nat} {tkA swA : Nat} {m_out : Int32} {t_draft : Nat} {m_tlen : Int32} {a_bytes : Nat → Int32} {m_nsize : Int32} {m_drafted : Int32} {a_letters : Nat → Int32} {a_nlen : Nat → Int32} {t_texts : Nat → Nat} {m_here : Int32} {m_fkind : Int32} {m_fplace : Int32} {m_toks : Int32} {t_types : Nat → Nat} {a_starts : Nat → Int32} {a_tlens : Nat → Int32} {m_heard : Int32} {m_qsize : Int32} {m_wayKnown : Int32} {m_way : Int32} {m_qKnown : Int32} {m_lineKnown : Int32} {m_nodes : Int32} {m_lsize : Int32} {a_tails : Nat → Int32} {a_heads : Nat → Int32} {a_gaps : Nat → Int32} {a_least : Nat → Int32} {m_csize : Int32} {a_ctails : Nat → Int32} {a_cheads : Nat → Int32} {a_cgaps : Nat → Int32} {a_leftOut : Nat → Int32} {a_qrow : Nat → Int32} {a_line : Nat → Int32} {a_tsize : Nat → Int32} {t_word : Nat → Nat} {a_own : Nat → Int32} {a_oth : Nat → Int32} {a_fst : Nat → Int32} {a_snd : Nat → Int32} {a_plc : Nat → Int32} {p1 : Nat} {res : Int32 × Int32 × (Nat → Int32) × (Nat → Int32) × Int32 × Int32 × Int32 × (Nat → Nat) × (Nat → Int32) × (Nat → Int32) × (Nat → Int32)} (hf : f_X5_readRest a_bytes m_drafted a_letters a_nlen m_here m_fkind m_fplace t_types a_starts a_tlens t_word a_own a_oth a_fst a_snd p1 = some res) : CTi l yX5_readRest wsX5_readRest rm_X5_readRest D ad 124 (tyL y) (STC ad adE adK adV tkA swA) (eC ad adE y m_out t_draft m_tlen a_bytes m_nsize m_drafted a_letters a_nlen t_texts m_here m_fkind m_fplace m_toks t_types a_starts a_tlens m_heard m_qsize m_wayKnown m_way m_qKnown m_lineKnown m_nodes m_lsize a_tails a_heads a_gaps a_least m_csize a_ctails a_cheads a_cgaps a_leftOut a_qrow a_line a_tsize t_word a_own a_oth a_fst a_snd a_plc) (eC ad adE y m_out t_draft m_tlen a_bytes m_nsize res.2.1 res.2.2.1 res.2.2.2.1 t_texts res.2.2.2.2.1 res.2.2.2.2.2.1 res.2.2.2.2.2.2.1 m_toks t_types a_starts a_tlens m_heard m_qsize m_wayKnown m_way m_qKnown m_lineKnown m_nodes m_lsize a_tails a_heads a_gaps a_least m_csize a_ctails a_cheads a_cgaps a_leftOut a_qrow a_line a_tsize res.2.2.2.2.2.2.2.1 a_own res.2.2.2.2.2.2.2.2.1 res.2.2.2.2.2.2.2.2.2.1 res.2.2.2.2.2.2.2.2.2.2 a_plc) [.ref (ad 7), .ref (ad (40 + p1))] res.1 := by
  intro sz
  refine Met.ofW (cc := cX5_readRest) (maxL := 2) (ret := (some .boolean)) (by decide) rfl ?_
  intro p e s m args below meth c s₁ B hml hv
  obtain ⟨rfl, hsz, hP, hK, hD0, hst⟩ := hv
  subst hsz
  have C0 : CXT wsX5_readRest cX5_readRest RX5 2 (some .boolean) D (tyL y) (STC ad adE adK adV tkA swA) p s m ([.ref (ad 7), .ref (ad (40 + p1))] : List Value).toArray meth c := ⟨B.exec, B.bytes, B.returns, hml, findClass_of_methodNamed B.named, atoms_spec (ws := wsX5_readRest) B.pre, B.notSynchronized, hK, hst⟩
  have hw := g_start (n := 124) eC_len hP hD0
  have hl := lv_entry ([.ref (ad 7), .ref (ad (40 + p1))]) (n := 2) (Nat.le_of_ble_eq_true rfl)
  rw [lg_entry_eq]
  generalize (lg_sl ([.ref (ad 7), .ref (ad (40 + p1))]) ++ List.replicate (2 - (lg_sl ([.ref (ad 7), .ref (ad (40 + p1))])).length) Slot.unset).toArray = ls at hl ⊢
  have hl : lv_has ls 2 [(0, .ref (ad 7)), (1, .ref (ad (40 + p1)))] := hl
  exact ke_X5_readRest C0 hf hw hl
abbrev rm_X5_read : Room := { frames := 8, cells := 0, slots := 0, locals := 181 }
abbrev QM_X5_read (below : List Frame) (args : Array Value) (s : State) (D : va_G) (ad : Nat → Nat) (y : Nat → ClassId) (adE : Nat → Nat) (m_out : Int32) (t_draft : Nat) (m_tlen : Int32) (a_bytes : Nat → Int32) (t_texts : Nat → Nat) (m_heard : Int32) (m_qsize : Int32) (m_wayKnown : Int32) (m_way : Int32) (m_qKnown : Int32) (m_lineKnown : Int32) (m_nodes : Int32) (m_lsize : Int32) (a_tails : Nat → Int32) (a_heads : Nat → Int32) (a_gaps : Nat → Int32) (a_least : Nat → Int32) (m_csize : Int32) (a_ctails : Nat → Int32) (a_cheads : Nat → Int32) (a_cgaps : Nat → Int32) (a_leftOut : Nat → Int32) (a_qrow : Nat → Int32) (a_line : Nat → Int32) (res : Int32 × Int32 × Int32 × (Nat → Int32) × (Nat → Int32) × Int32 × Int32 × Int32 × Int32 × (Nat → Nat) × (Nat → Int32) × (Nat → Int32) × (Nat → Int32) × (Nat → Nat) × (Nat → Int32) × (Nat → Int32) × (Nat → Int32) × (Nat → Int32) × (Nat → Int32)) : State → Prop := MQ below (va_Qi (fun x (_ : Unit) => x = res.1) (fun _ t => va_P D vwCl (wls ad (eC ad adE y m_out t_draft m_tlen a_bytes res.2.1 res.2.2.1 res.2.2.2.1 res.2.2.2.2.1 t_texts res.2.2.2.2.2.1 res.2.2.2.2.2.2.1 res.2.2.2.2.2.2.2.1 res.2.2.2.2.2.2.2.2.1 res.2.2.2.2.2.2.2.2.2.1 res.2.2.2.2.2.2.2.2.2.2.1 res.2.2.2.2.2.2.2.2.2.2.2.1 m_heard m_qsize m_wayKnown m_way m_qKnown m_lineKnown m_nodes m_lsize a_tails a_heads a_gaps a_least m_csize a_ctails a_cheads a_cgaps a_leftOut a_qrow a_line res.2.2.2.2.2.2.2.2.2.2.2.2.1 res.2.2.2.2.2.2.2.2.2.2.2.2.2.1 res.2.2.2.2.2.2.2.2.2.2.2.2.2.2.1 res.2.2.2.2.2.2.2.2.2.2.2.2.2.2.2.1 res.2.2.2.2.2.2.2.2.2.2.2.2.2.2.2.2.1 res.2.2.2.2.2.2.2.2.2.2.2.2.2.2.2.2.2.1 res.2.2.2.2.2.2.2.2.2.2.2.2.2.2.2.2.2.2)) t.heap) (Aw ad 124 s.heap.size)) args s 0 0 (Aw ad 124 s.heap.size)
set_option maxHeartbeats 4000000 in
set_option maxRecDepth 100000 in
theorem kw_X5_read_28 {p : Program} {l : Launch} {e : Env} {s : State} {m : MethodId} {args : Array Value} {below : List Frame} {meth : Method} {c : Code} {D : va_G} {ad : Nat → Nat} {y : Nat → ClassId} {adE adK adV : Nat → Nat} {tkA swA : Nat} (C0 : CXT wsX5_read cX5_read RX5 3 (some .boolean) D (tyL y) (STC ad adE adK adV tkA swA) p s m args meth c) {m_out : Int32} {t_draft : Nat} {m_tlen : Int32} {a_bytes : Nat → Int32} {m_nsize : Int32} {t_texts : Nat → Nat} {m_toks : Int32} {t_types : Nat → Nat} {a_starts : Nat → Int32} {a_tlens : Nat → Int32} {m_heard : Int32} {m_qsize : Int32} {m_wayKnown : Int32} {m_way : Int32} {m_qKnown : Int32} {m_lineKnown : Int32} {m_nodes : Int32} {m_lsize : Int32} {a_tails : Nat → Int32} {a_heads : Nat → Int32} {a_gaps : Nat → Int32} {a_least : Nat → Int32} {m_csize : Int32} {a_ctails : Nat → Int32} {a_cheads : Nat → Int32} {a_cgaps : Nat → Int32} {a_leftOut : Nat → Int32} {a_qrow : Nat → Int32} {a_line : Nat → Int32} {u1 : Nat} {res : Int32 × Int32 × Int32 × (Nat → Int32) × (Nat → Int32) × Int32 × Int32 × Int32 × Int32 × (Nat → Nat) × (Nat → Int32) × (Nat → Int32) × (Nat → Int32) × (Nat → Nat) × (Nat → Int32) × (Nat → Int32) × (Nat → Int32) × (Nat → Int32) × (Nat → Int32)} {sg : Int32 × Int32 × (Nat → Int32) × (Nat → Int32) × Int32 × Int32 × Int32 × (Nat → Int32) × (Nat → Nat) × (Nat → Int32) × (Nat → Int32) × (Nat → Int32) × (Nat → Int32) × (Nat → Int32)} {o : (Int32 × Int32 × (Nat → Int32) × (Nat → Int32) × Int32 × Int32 × Int32 × (Nat → Int32) × (Nat → Nat) × (Nat → Int32) × (Nat → Int32) × (Nat → Int32) × (Nat → Int32) × (Nat → Int32)) ⊕ (Int32 × Int32 × (Nat → Int32) × (Nat → Int32) × Int32 × Int32 × Int32 × (Nat → Int32) × (Nat → Nat) × (Nat → Int32) × (Nat → Int32) × (Nat → Int32) × (Nat → Int32) × (Nat → Int32))} (hf : f_X5_read_l28 m_tlen a_bytes m_nsize m_toks t_types a_starts a_tlens u1 sg = some o) {H : Heap} {locs : List Loc} {ls : Array Slot} (hw : Wo D ad (Aw ad 124 s.heap.size) (eC ad adE y m_out t_draft m_tlen a_bytes m_nsize sg.2.1 sg.2.2.1 sg.2.2.2.1 t_texts sg.2.2.2.2.1 sg.2.2.2.2.2.1 sg.2.2.2.2.2.2.1 m_toks t_types a_starts a_tlens m_heard m_qsize m_wayKnown m_way m_qKnown m_lineKnown m_nodes m_lsize a_tails a_heads a_gaps a_least m_csize a_ctails a_cheads a_cgaps a_leftOut a_qrow a_line sg.2.2.2.2.2.2.2.1 sg.2.2.2.2.2.2.2.2.1 sg.2.2.2.2.2.2.2.2.2.1 sg.2.2.2.2.2.2.2.2.2.2.1 sg.2.2.2.2.2.2.2.2.2.2.2.1 sg.2.2.2.2.2.2.2.2.2.2.2.2.1 sg.2.2.2.2.2.2.2.2.2.2.2.2.2) s.heap H locs) (hl : lv_has ls 3 [(0, .ref (ad 7)), (1, .ref (ad (26 + u1))), (2, .int sg.1)]) (hcont : ∀ s2, o = .inl s2 → ∀ (H : Heap) (locs : List Loc) (ls : Array Slot), Wo D ad (Aw ad 124 s.heap.size) (eC ad adE y m_out t_draft m_tlen a_bytes m_nsize s2.2.1 s2.2.2.1 s2.2.2.2.1 t_texts s2.2.2.2.2.1 s2.2.2.2.2.2.1 s2.2.2.2.2.2.2.1 m_toks t_types a_starts a_tlens m_heard m_qsize m_wayKnown m_way m_qKnown m_lineKnown m_nodes m_lsize a_tails a_heads a_gaps a_least m_csize a_ctails a_cheads a_cgaps a_leftOut a_qrow a_line s2.2.2.2.2.2.2.2.1 s2.2.2.2.2.2.2.2.2.1 s2.2.2.2.2.2.2.2.2.2.1 s2.2.2.2.2.2.2.2.2.2.2.1 s2.2.2.2.2.2.2.2.2.2.2.2.1 s2.2.2.2.2.2.2.2.2.2.2.2.2.1 s2.2.2.2.2.2.2.2.2.2.2.2.2.2) s.heap H locs → lv_has ls 3 [(0, .ref (ad 7)), (1, .ref (ad (26 + u1))), (2, .int s2.1)] → W p l e rm_X5_read s m args below meth c H locs 0 0 (QM_X5_read below args s D ad y adE (m_out) (t_draft) (m_tlen) (a_bytes) (t_texts) (m_heard) (m_qsize) (m_wayKnown) (m_way) (m_qKnown) (m_lineKnown) (m_nodes) (m_lsize) (a_tails) (a_heads) (a_gaps) (a_least) (m_csize) (a_ctails) (a_cheads) (a_cgaps) (a_leftOut) (a_qrow) (a_line) res) (F0 m 28 ls [])) (hexit : ∀ t, o = .inr t → ∀ (H : Heap) (locs : List Loc) (ls : Array Slot), Wo D ad (Aw ad 124 s.heap.size) (eC ad adE y m_out t_draft m_tlen a_bytes m_nsize t.2.1 t.2.2.1 t.2.2.2.1 t_texts t.2.2.2.2.1 t.2.2.2.2.2.1 t.2.2.2.2.2.2.1 m_toks t_types a_starts a_tlens m_heard m_qsize m_wayKnown m_way m_qKnown m_lineKnown m_nodes m_lsize a_tails a_heads a_gaps a_least m_csize a_ctails a_cheads a_cgaps a_leftOut a_qrow a_line t.2.2.2.2.2.2.2.1 t.2.2.2.2.2.2.2.2.1 t.2.2.2.2.2.2.2.2.2.1 t.2.2.2.2.2.2.2.2.2.2.1 t.2.2.2.2.2.2.2.2.2.2.2.1 t.2.2.2.2.2.2.2.2.2.2.2.2.1 t.2.2.2.2.2.2.2.2.2.2.2.2.2) s.heap H locs → lv_has ls 3 [(0, .ref (ad 7)), (1, .ref (ad (26 + u1))), (2, .int t.1)] → W p l e rm_X5_read s m args below meth c H locs 0 0 (QM_X5_read below args s D ad y adE (m_out) (t_draft) (m_tlen) (a_bytes) (t_texts) (m_heard) (m_qsize) (m_wayKnown) (m_way) (m_qKnown) (m_lineKnown) (m_nodes) (m_lsize) (a_tails) (a_heads) (a_gaps) (a_least) (m_csize) (a_ctails) (a_cheads) (a_cgaps) (a_leftOut) (a_qrow) (a_line) res) (F0 m 86 ls [])) : W p l e rm_X5_read s m args below meth c H locs 0 0 (QM_X5_read below args s D ad y adE (m_out) (t_draft) (m_tlen) (a_bytes) (t_texts) (m_heard) (m_qsize) (m_wayKnown) (m_way) (m_qKnown) (m_lineKnown) (m_nodes) (m_lsize) (a_tails) (a_heads) (a_gaps) (a_least) (m_csize) (a_ctails) (a_cheads) (a_cgaps) (a_leftOut) (a_qrow) (a_line) res) (F0 m 28 ls []) := by
  obtain ⟨hx, hb, hr, hml, hown, hts, hlocks, hK, hst⟩ := id C0
  have i_X5 : ∀ w ∈ u_ws RX5 TX5 6, w ∈ wsX5_read := by decide +kernel
  have L_22 := hts (.fieldLink RX5 22 "CaseOrder$Reader" "faultKind" "I") (by decide +kernel)
  have L_45 := hts (.fieldLink RX5 45 "CaseOrder$Token" "END" "LCaseOrder$Token;") (by decide +kernel)
  have i_X8 : ∀ w ∈ u_ws RX8 TX8 2, w ∈ wsX5_read := by decide +kernel
  have L_59 := hts (.fieldLink RX5 59 "CaseOrder$Text" "row" "[LCaseOrder$Saying;") (by decide +kernel)
  have L_40 := hts (.fieldLink RX5 40 "CaseOrder$Text" "size" "I") (by decide +kernel)
  unfold f_X5_read_l28 at hf
  refine lv_iload_n hx hb dX5_read_28 rfl (lv_at hl 2 rfl) ?_
  refine lv_bipush (v := 12) hx hb dX5_read_29 (by decide) ?_
  refine lv_icmp_gt (tgt := 86) hx hb dX5_read_31 (by decide) (fun c14 => ?_) (fun c14 => ?_)
  · have hf := it_p c14 hf
    exact hexit _ (so hf).symm _ _ _ hw (lv_sub hl [0, 1, 2] rfl)
  · have hf := it_n c14 hf
    refine lv_aload_n hx hb dX5_read_34 rfl (lv_at hl 0 rfl) ?_
    refine g_get hx hb hts i_X5 hown hK hw 7 eC_c7 rfl 4 (by decide) L_22 (fun _ h => h) rfl dX5_read_35 ?_
    refine lv_if_ne (tgt := 86) hx hb dX5_read_38 (by decide) (fun c15 => ?_) (fun c15 => ?_)
    · have hf := it_n c15 hf
      exact hexit _ (so hf).symm _ _ _ hw (lv_sub hl [0, 1, 2] rfl)
    · have hf := it_p c15 hf
      refine lv_aload_n hx hb dX5_read_41 rfl (lv_at hl 0 rfl) ?_
      refine va_gets hx hb (sC_tok 11 (by decide) rfl hst) hw.2.2 hown L_45 (fun _ h => h) dX5_read_42 ?_
      obtain ⟨q16, hq16, hf⟩ := bd hf
      refine g_Vi (As := [.ref (adE 11)]) (rest := []) ⟨hx, hb, hml, hown, hts⟩ (k_X5_is hq16) (cwV 1 hts gX5_read_X5_is rfl rfl rfl (by decide +kernel) ⟨Nat.le_of_ble_eq_true rfl, Nat.le_of_ble_eq_true rfl⟩) STC_ok hst hK hw (eC_len.trans eC_len.symm) eC_c7 rfl rfl hl.1 rfl (Nat.le_of_ble_eq_true rfl) dX5_read_45 ⟨Nat.zero_le _, Nat.zero_le _⟩ (fun H locs hw => ?_)
      refine lv_if_ne (tgt := 86) hx hb dX5_read_48 (by decide) (fun c17 => ?_) (fun c17 => ?_)
      · have hf := it_n c17 hf
        exact hexit _ (so hf).symm _ _ _ hw (lv_sub hl [0, 1, 2] rfl)
      · have hf := it_p c17 hf
        refine lv_aload_n hx hb dX5_read_51 rfl (lv_at hl 0 rfl) ?_
        refine lv_iload_n hx hb dX5_read_52 rfl (lv_at hl 2 rfl) ?_
        refine lv_aload_n hx hb dX5_read_53 rfl (lv_at hl 1 rfl) ?_
        obtain ⟨q18, hq18, hf⟩ := bd hf
        refine g_Vi (As := [.int sg.1, .ref (ad (26 + u1))]) (rest := []) ⟨hx, hb, hml, hown, hts⟩ (k_X5_readBeginning hq18) (cwV 2 hts gX5_read_X5_readBeginning rfl rfl rfl (by decide +kernel) ⟨Nat.le_of_ble_eq_true rfl, Nat.le_of_ble_eq_true rfl⟩) STC_ok hst hK hw (eC_len.trans eC_len.symm) eC_c7 rfl rfl hl.1 rfl (Nat.le_of_ble_eq_true rfl) dX5_read_54 ⟨Nat.zero_le _, Nat.zero_le _⟩ (fun H locs hw => ?_)
        have hw : Wo D ad (Aw ad 124 s.heap.size) (eC ad adE y m_out t_draft m_tlen a_bytes m_nsize q18.2.1 q18.2.2.1 q18.2.2.2.1 t_texts q18.2.2.2.2.1 q18.2.2.2.2.2.1 q18.2.2.2.2.2.2.1 m_toks t_types a_starts a_tlens m_heard m_qsize m_wayKnown m_way m_qKnown m_lineKnown m_nodes m_lsize a_tails a_heads a_gaps a_least m_csize a_ctails a_cheads a_cgaps a_leftOut a_qrow a_line sg.2.2.2.2.2.2.2.1 sg.2.2.2.2.2.2.2.2.1 q18.2.2.2.2.2.2.2.1 q18.2.2.2.2.2.2.2.2.1 q18.2.2.2.2.2.2.2.2.2.1 q18.2.2.2.2.2.2.2.2.2.2.1 q18.2.2.2.2.2.2.2.2.2.2.2) s.heap H locs := hw
        refine lv_if_eq (tgt := 80) hx hb dX5_read_57 (by decide) (fun c19 => ?_) (fun c19 => ?_)
        · have hf := it_p c19 hf
          refine lv_iinc (v := sg.1 + 1) (lv' := [(2, .int (sg.1 + 1)), (0, .ref (ad 7)), (1, .ref (ad (26 + u1)))]) hx hb dX5_read_80 hl (k := 2) rfl rfl (by decide) rfl (fun ls hl => ?_)
          refine lv_goto (tgt := 28) hx hb dX5_read_83 (by decide) ?_
          exact hcont _ (so hf).symm _ _ _ hw (lv_sub hl [1, 2, 0] rfl)
        · have hf := it_n c19 hf
          refine lv_aload_n hx hb dX5_read_60 rfl (lv_at hl 0 rfl) ?_
          refine lv_aload_n hx hb dX5_read_61 rfl (lv_at hl 1 rfl) ?_
          obtain ⟨g20, hf⟩ := gN_some hf
          refine g_get hx hb hts i_X8 hown hK hw (26 + u1) (eC_T g20) rfl 0 (by decide) L_59 (fun _ h => h) rfl dX5_read_62 ?_
          refine lv_iload_n hx hb dX5_read_65 rfl (lv_at hl 2 rfl) ?_
          obtain ⟨g21, hf⟩ := gIn_some hf
          refine g_aald hx hb hK hw (33 + u1) 5 (eC_W g20) rfl g21 dX5_read_66 rfl ?_
          obtain ⟨q22, hq22, hf⟩ := bd hf
          refine g_Vi (As := [.ref (ad (40 + (12 * u1 + Int32.toNatClampNeg sg.1)))]) (rest := []) ⟨hx, hb, hml, hown, hts⟩ (k_X5_readRest hq22) (cwV 1 hts gX5_read_X5_readRest rfl rfl rfl (by decide +kernel) ⟨Nat.le_of_ble_eq_true rfl, Nat.le_of_ble_eq_true rfl⟩) STC_ok hst hK hw (eC_len.trans eC_len.symm) eC_c7 rfl rfl hl.1 rfl (Nat.le_of_ble_eq_true rfl) dX5_read_67 ⟨Nat.zero_le _, Nat.zero_le _⟩ (fun H locs hw => ?_)
          have hw : Wo D ad (Aw ad 124 s.heap.size) (eC ad adE y m_out t_draft m_tlen a_bytes m_nsize q22.2.1 q22.2.2.1 q22.2.2.2.1 t_texts q22.2.2.2.2.1 q22.2.2.2.2.2.1 q22.2.2.2.2.2.2.1 m_toks t_types a_starts a_tlens m_heard m_qsize m_wayKnown m_way m_qKnown m_lineKnown m_nodes m_lsize a_tails a_heads a_gaps a_least m_csize a_ctails a_cheads a_cgaps a_leftOut a_qrow a_line sg.2.2.2.2.2.2.2.1 q22.2.2.2.2.2.2.2.1 q18.2.2.2.2.2.2.2.1 q22.2.2.2.2.2.2.2.2.1 q22.2.2.2.2.2.2.2.2.2.1 q22.2.2.2.2.2.2.2.2.2.2 q18.2.2.2.2.2.2.2.2.2.2.2) s.heap H locs := hw
          refine lv_if_eq (tgt := 80) hx hb dX5_read_70 (by decide) (fun c23 => ?_) (fun c23 => ?_)
          · have hf := it_p c23 hf
            refine lv_iinc (v := sg.1 + 1) (lv' := [(2, .int (sg.1 + 1)), (0, .ref (ad 7)), (1, .ref (ad (26 + u1)))]) hx hb dX5_read_80 hl (k := 2) rfl rfl (by decide) rfl (fun ls hl => ?_)
            refine lv_goto (tgt := 28) hx hb dX5_read_83 (by decide) ?_
            exact hcont _ (so hf).symm _ _ _ hw (lv_sub hl [1, 2, 0] rfl)
          · have hf := it_n c23 hf
            refine lv_aload_n hx hb dX5_read_73 rfl (lv_at hl 1 rfl) ?_
            refine lv_iload_n hx hb dX5_read_74 rfl (lv_at hl 2 rfl) ?_
            refine lv_iconst (v := 1) hx hb dX5_read_75 (by decide) ?_
            refine lv_iadd hx hb dX5_read_76 ?_
            obtain ⟨g24, hf⟩ := gN_some hf
            refine g_put (ty := .int) hx hb hts i_X8 tyX8 tyX8_ok nmX8 hown hK hw (26 + u1) (eC_T g24) rfl 1 (by decide) L_40 (fun _ h => h) rfl (by decide +kernel) rfl rfl (Nat.le_of_ble_eq_true rfl) dX5_read_77 (fun H locs hw => ?_)
            rw [eC_sT g24] at hw
            have hw : Wo D ad (Aw ad 124 s.heap.size) (eC ad adE y m_out t_draft m_tlen a_bytes m_nsize q22.2.1 q22.2.2.1 q22.2.2.2.1 t_texts q22.2.2.2.2.1 q22.2.2.2.2.2.1 q22.2.2.2.2.2.2.1 m_toks t_types a_starts a_tlens m_heard m_qsize m_wayKnown m_way m_qKnown m_lineKnown m_nodes m_lsize a_tails a_heads a_gaps a_least m_csize a_ctails a_cheads a_cgaps a_leftOut a_qrow a_line (upd sg.2.2.2.2.2.2.2.1 u1 (sg.1 + 1)) q22.2.2.2.2.2.2.2.1 q18.2.2.2.2.2.2.2.1 q22.2.2.2.2.2.2.2.2.1 q22.2.2.2.2.2.2.2.2.2.1 q22.2.2.2.2.2.2.2.2.2.2 q18.2.2.2.2.2.2.2.2.2.2.2) s.heap H locs := hw
            refine lv_iinc (v := sg.1 + 1) (lv' := [(2, .int (sg.1 + 1)), (0, .ref (ad 7)), (1, .ref (ad (26 + u1)))]) hx hb dX5_read_80 hl (k := 2) rfl rfl (by decide) rfl (fun ls hl => ?_)
            refine lv_goto (tgt := 28) hx hb dX5_read_83 (by decide) ?_
            exact hcont _ (so hf).symm _ _ _ hw (lv_sub hl [1, 2, 0] rfl)
set_option maxHeartbeats 4000000 in
theorem kl_X5_read_28 {p : Program} {l : Launch} {e : Env} {s : State} {m : MethodId} {args : Array Value} {below : List Frame} {meth : Method} {c : Code} {D : va_G} {ad : Nat → Nat} {y : Nat → ClassId} {adE adK adV : Nat → Nat} {tkA swA : Nat} (C0 : CXT wsX5_read cX5_read RX5 3 (some .boolean) D (tyL y) (STC ad adE adK adV tkA swA) p s m args meth c) {m_out : Int32} {t_draft : Nat} {m_tlen : Int32} {a_bytes : Nat → Int32} {m_nsize : Int32} {t_texts : Nat → Nat} {m_toks : Int32} {t_types : Nat → Nat} {a_starts : Nat → Int32} {a_tlens : Nat → Int32} {m_heard : Int32} {m_qsize : Int32} {m_wayKnown : Int32} {m_way : Int32} {m_qKnown : Int32} {m_lineKnown : Int32} {m_nodes : Int32} {m_lsize : Int32} {a_tails : Nat → Int32} {a_heads : Nat → Int32} {a_gaps : Nat → Int32} {a_least : Nat → Int32} {m_csize : Int32} {a_ctails : Nat → Int32} {a_cheads : Nat → Int32} {a_cgaps : Nat → Int32} {a_leftOut : Nat → Int32} {a_qrow : Nat → Int32} {a_line : Nat → Int32} {u1 : Nat} {res : Int32 × Int32 × Int32 × (Nat → Int32) × (Nat → Int32) × Int32 × Int32 × Int32 × Int32 × (Nat → Nat) × (Nat → Int32) × (Nat → Int32) × (Nat → Int32) × (Nat → Nat) × (Nat → Int32) × (Nat → Int32) × (Nat → Int32) × (Nat → Int32) × (Nat → Int32)} : ∀ (n : Nat) (sg : Int32 × Int32 × (Nat → Int32) × (Nat → Int32) × Int32 × Int32 × Int32 × (Nat → Int32) × (Nat → Nat) × (Nat → Int32) × (Nat → Int32) × (Nat → Int32) × (Nat → Int32) × (Nat → Int32)) (q : Int32 × Int32 × (Nat → Int32) × (Nat → Int32) × Int32 × Int32 × Int32 × (Nat → Int32) × (Nat → Nat) × (Nat → Int32) × (Nat → Int32) × (Nat → Int32) × (Nat → Int32) × (Nat → Int32)), lp (f_X5_read_l28 m_tlen a_bytes m_nsize m_toks t_types a_starts a_tlens u1) n sg = some q → ∀ (H : Heap) (locs : List Loc) (ls : Array Slot), Wo D ad (Aw ad 124 s.heap.size) (eC ad adE y m_out t_draft m_tlen a_bytes m_nsize sg.2.1 sg.2.2.1 sg.2.2.2.1 t_texts sg.2.2.2.2.1 sg.2.2.2.2.2.1 sg.2.2.2.2.2.2.1 m_toks t_types a_starts a_tlens m_heard m_qsize m_wayKnown m_way m_qKnown m_lineKnown m_nodes m_lsize a_tails a_heads a_gaps a_least m_csize a_ctails a_cheads a_cgaps a_leftOut a_qrow a_line sg.2.2.2.2.2.2.2.1 sg.2.2.2.2.2.2.2.2.1 sg.2.2.2.2.2.2.2.2.2.1 sg.2.2.2.2.2.2.2.2.2.2.1 sg.2.2.2.2.2.2.2.2.2.2.2.1 sg.2.2.2.2.2.2.2.2.2.2.2.2.1 sg.2.2.2.2.2.2.2.2.2.2.2.2.2) s.heap H locs → lv_has ls 3 [(0, .ref (ad 7)), (1, .ref (ad (26 + u1))), (2, .int sg.1)] → (∀ (H : Heap) (locs : List Loc) (ls : Array Slot), Wo D ad (Aw ad 124 s.heap.size) (eC ad adE y m_out t_draft m_tlen a_bytes m_nsize q.2.1 q.2.2.1 q.2.2.2.1 t_texts q.2.2.2.2.1 q.2.2.2.2.2.1 q.2.2.2.2.2.2.1 m_toks t_types a_starts a_tlens m_heard m_qsize m_wayKnown m_way m_qKnown m_lineKnown m_nodes m_lsize a_tails a_heads a_gaps a_least m_csize a_ctails a_cheads a_cgaps a_leftOut a_qrow a_line q.2.2.2.2.2.2.2.1 q.2.2.2.2.2.2.2.2.1 q.2.2.2.2.2.2.2.2.2.1 q.2.2.2.2.2.2.2.2.2.2.1 q.2.2.2.2.2.2.2.2.2.2.2.1 q.2.2.2.2.2.2.2.2.2.2.2.2.1 q.2.2.2.2.2.2.2.2.2.2.2.2.2) s.heap H locs → lv_has ls 3 [(0, .ref (ad 7)), (1, .ref (ad (26 + u1))), (2, .int q.1)] → W p l e rm_X5_read s m args below meth c H locs 0 0 (QM_X5_read below args s D ad y adE (m_out) (t_draft) (m_tlen) (a_bytes) (t_texts) (m_heard) (m_qsize) (m_wayKnown) (m_way) (m_qKnown) (m_lineKnown) (m_nodes) (m_lsize) (a_tails) (a_heads) (a_gaps) (a_least) (m_csize) (a_ctails) (a_cheads) (a_cgaps) (a_leftOut) (a_qrow) (a_line) res) (F0 m 86 ls [])) → W p l e rm_X5_read s m args below meth c H locs 0 0 (QM_X5_read below args s D ad y adE (m_out) (t_draft) (m_tlen) (a_bytes) (t_texts) (m_heard) (m_qsize) (m_wayKnown) (m_way) (m_qKnown) (m_lineKnown) (m_nodes) (m_lsize) (a_tails) (a_heads) (a_gaps) (a_least) (m_csize) (a_ctails) (a_cheads) (a_cgaps) (a_leftOut) (a_qrow) (a_line) res) (F0 m 28 ls []) := by
  intro n
  induction n with
  | zero => intro sg q hf; exact absurd hf lp_zero
  | succ n ih =>
    intro sg q hf H locs ls hw hl hexit
    rcases lp_succ hf with ⟨sg2, h1, h2⟩ | h1
    · exact kw_X5_read_28 C0 h1 hw hl (fun s2 e2 H locs ls hw hl => by cases e2; exact ih _ q h2 H locs ls hw hl hexit) (fun t e2 => by cases e2)
    · exact kw_X5_read_28 C0 h1 hw hl (fun s2 e2 => by cases e2) (fun t e2 => by cases e2; exact hexit)
set_option maxHeartbeats 4000000 in
set_option maxRecDepth 100000 in
theorem kb_X5_read_b128 {p : Program} {l : Launch} {e : Env} {s : State} {m : MethodId} {args : Array Value} {below : List Frame} {meth : Method} {c : Code} {D : va_G} {ad : Nat → Nat} {y : Nat → ClassId} {adE adK adV : Nat → Nat} {tkA swA : Nat} (C0 : CXT wsX5_read cX5_read RX5 3 (some .boolean) D (tyL y) (STC ad adE adK adV tkA swA) p s m args meth c) {m_out : Int32} {t_draft : Nat} {m_tlen : Int32} {a_bytes : Nat → Int32} {m_nsize : Int32} {m_drafted : Int32} {a_letters : Nat → Int32} {a_nlen : Nat → Int32} {t_texts : Nat → Nat} {m_here : Int32} {m_fkind : Int32} {m_fplace : Int32} {m_toks : Int32} {t_types : Nat → Nat} {a_starts : Nat → Int32} {a_tlens : Nat → Int32} {m_heard : Int32} {m_qsize : Int32} {m_wayKnown : Int32} {m_way : Int32} {m_qKnown : Int32} {m_lineKnown : Int32} {m_nodes : Int32} {m_lsize : Int32} {a_tails : Nat → Int32} {a_heads : Nat → Int32} {a_gaps : Nat → Int32} {a_least : Nat → Int32} {m_csize : Int32} {a_ctails : Nat → Int32} {a_cheads : Nat → Int32} {a_cgaps : Nat → Int32} {a_leftOut : Nat → Int32} {a_qrow : Nat → Int32} {a_line : Nat → Int32} {a_tsize : Nat → Int32} {t_word : Nat → Nat} {a_own : Nat → Int32} {a_oth : Nat → Int32} {a_fst : Nat → Int32} {a_snd : Nat → Int32} {a_plc : Nat → Int32}  {w0 : Int32}  {res : Int32 × Int32 × Int32 × (Nat → Int32) × (Nat → Int32) × Int32 × Int32 × Int32 × Int32 × (Nat → Nat) × (Nat → Int32) × (Nat → Int32) × (Nat → Int32) × (Nat → Nat) × (Nat → Int32) × (Nat → Int32) × (Nat → Int32) × (Nat → Int32) × (Nat → Int32)} (hf : f_X5_read_b128 m_tlen a_bytes m_nsize m_drafted a_letters a_nlen m_here m_fkind m_fplace m_toks t_types a_starts a_tlens a_tsize t_word a_own a_oth a_fst a_snd a_plc w0 = some res) {H : Heap} {locs : List Loc} {ls : Array Slot} (hw : Wo D ad (Aw ad 124 s.heap.size) (eC ad adE y m_out t_draft m_tlen a_bytes m_nsize m_drafted a_letters a_nlen t_texts m_here m_fkind m_fplace m_toks t_types a_starts a_tlens m_heard m_qsize m_wayKnown m_way m_qKnown m_lineKnown m_nodes m_lsize a_tails a_heads a_gaps a_least m_csize a_ctails a_cheads a_cgaps a_leftOut a_qrow a_line a_tsize t_word a_own a_oth a_fst a_snd a_plc) s.heap H locs) (hl : lv_has ls 3 [(0, .ref (ad 7))]) : W p l e rm_X5_read s m args below meth c H locs 0 0 (QM_X5_read below args s D ad y adE (m_out) (t_draft) (m_tlen) (a_bytes) (t_texts) (m_heard) (m_qsize) (m_wayKnown) (m_way) (m_qKnown) (m_lineKnown) (m_nodes) (m_lsize) (a_tails) (a_heads) (a_gaps) (a_least) (m_csize) (a_ctails) (a_cheads) (a_cgaps) (a_leftOut) (a_qrow) (a_line) res) (F0 m 128 ls [.int w0, .ref (ad 3)]) := by
  obtain ⟨hx, hb, hr, hml, hown, hts, hlocks, hK, hst⟩ := id C0
  have i_X5 : ∀ w ∈ u_ws RX5 TX5 6, w ∈ wsX5_read := by decide +kernel
  have L_22 := hts (.fieldLink RX5 22 "CaseOrder$Reader" "faultKind" "I") (by decide +kernel)
  unfold f_X5_read_b128 at hf
  obtain ⟨q28, hq28, hf⟩ := bd hf
  refine g_Vv (As := [.int w0]) (rest := []) ⟨hx, hb, hml, hown, hts⟩ (k_X3_settle hq28) (cwV 1 hts gX5_read_X3_settle rfl rfl rfl (by decide +kernel) ⟨Nat.le_of_ble_eq_true rfl, Nat.le_of_ble_eq_true rfl⟩) STC_ok hst hK hw (eC_len.trans eC_len.symm) eC_c3 rfl rfl hl.1 rfl (Nat.le_of_ble_eq_true rfl) dX5_read_128 ⟨Nat.zero_le _, Nat.zero_le _⟩ (fun H locs hw => ?_)
  have hw : Wo D ad (Aw ad 124 s.heap.size) (eC ad adE y m_out t_draft m_tlen a_bytes q28.1 q28.2 a_letters a_nlen t_texts m_here m_fkind m_fplace m_toks t_types a_starts a_tlens m_heard m_qsize m_wayKnown m_way m_qKnown m_lineKnown m_nodes m_lsize a_tails a_heads a_gaps a_least m_csize a_ctails a_cheads a_cgaps a_leftOut a_qrow a_line a_tsize t_word a_own a_oth a_fst a_snd a_plc) s.heap H locs := hw
  refine lv_aload_n hx hb dX5_read_131 rfl (lv_at hl 0 rfl) ?_
  refine g_get hx hb hts i_X5 hown hK hw 7 eC_c7 rfl 4 (by decide) L_22 (fun _ h => h) rfl dX5_read_132 ?_
  refine lv_if_ne (tgt := 142) hx hb dX5_read_135 (by decide) (fun c29 => ?_) (fun c29 => ?_)
  · have hf := it_n c29 hf
    refine lv_iconst (v := 0) hx hb dX5_read_142 (by decide) ?_
    obtain rfl := so hf
    exact W.zret (v := 0) hx hb hr rfl (fun t ht _ => g_end hw t ht) hw.2.2.2.2 dX5_read_143
  · have hf := it_p c29 hf
    refine lv_iconst (v := 1) hx hb dX5_read_138 (by decide) ?_
    refine lv_goto (tgt := 143) hx hb dX5_read_139 (by decide) ?_
    obtain rfl := so hf
    exact W.zret (v := 1) hx hb hr rfl (fun t ht _ => g_end hw t ht) hw.2.2.2.2 dX5_read_143
set_option maxHeartbeats 4000000 in
set_option maxRecDepth 100000 in
theorem kb_X5_read_b112 {p : Program} {l : Launch} {e : Env} {s : State} {m : MethodId} {args : Array Value} {below : List Frame} {meth : Method} {c : Code} {D : va_G} {ad : Nat → Nat} {y : Nat → ClassId} {adE adK adV : Nat → Nat} {tkA swA : Nat} (C0 : CXT wsX5_read cX5_read RX5 3 (some .boolean) D (tyL y) (STC ad adE adK adV tkA swA) p s m args meth c) {m_out : Int32} {t_draft : Nat} {m_tlen : Int32} {a_bytes : Nat → Int32} {m_nsize : Int32} {m_drafted : Int32} {a_letters : Nat → Int32} {a_nlen : Nat → Int32} {t_texts : Nat → Nat} {m_here : Int32} {m_fkind : Int32} {m_fplace : Int32} {m_toks : Int32} {t_types : Nat → Nat} {a_starts : Nat → Int32} {a_tlens : Nat → Int32} {m_heard : Int32} {m_qsize : Int32} {m_wayKnown : Int32} {m_way : Int32} {m_qKnown : Int32} {m_lineKnown : Int32} {m_nodes : Int32} {m_lsize : Int32} {a_tails : Nat → Int32} {a_heads : Nat → Int32} {a_gaps : Nat → Int32} {a_least : Nat → Int32} {m_csize : Int32} {a_ctails : Nat → Int32} {a_cheads : Nat → Int32} {a_cgaps : Nat → Int32} {a_leftOut : Nat → Int32} {a_qrow : Nat → Int32} {a_line : Nat → Int32} {a_tsize : Nat → Int32} {t_word : Nat → Nat} {a_own : Nat → Int32} {a_oth : Nat → Int32} {a_fst : Nat → Int32} {a_snd : Nat → Int32} {a_plc : Nat → Int32}    {res : Int32 × Int32 × Int32 × (Nat → Int32) × (Nat → Int32) × Int32 × Int32 × Int32 × Int32 × (Nat → Nat) × (Nat → Int32) × (Nat → Int32) × (Nat → Int32) × (Nat → Nat) × (Nat → Int32) × (Nat → Int32) × (Nat → Int32) × (Nat → Int32) × (Nat → Int32)} (hf : f_X5_read_b112 m_tlen a_bytes m_nsize m_drafted a_letters a_nlen m_here m_fkind m_fplace m_toks t_types a_starts a_tlens a_tsize t_word a_own a_oth a_fst a_snd a_plc = some res) {H : Heap} {locs : List Loc} {ls : Array Slot} (hw : Wo D ad (Aw ad 124 s.heap.size) (eC ad adE y m_out t_draft m_tlen a_bytes m_nsize m_drafted a_letters a_nlen t_texts m_here m_fkind m_fplace m_toks t_types a_starts a_tlens m_heard m_qsize m_wayKnown m_way m_qKnown m_lineKnown m_nodes m_lsize a_tails a_heads a_gaps a_least m_csize a_ctails a_cheads a_cgaps a_leftOut a_qrow a_line a_tsize t_word a_own a_oth a_fst a_snd a_plc) s.heap H locs) (hl : lv_has ls 3 [(0, .ref (ad 7))]) : W p l e rm_X5_read s m args below meth c H locs 0 0 (QM_X5_read below args s D ad y adE (m_out) (t_draft) (m_tlen) (a_bytes) (t_texts) (m_heard) (m_qsize) (m_wayKnown) (m_way) (m_qKnown) (m_lineKnown) (m_nodes) (m_lsize) (a_tails) (a_heads) (a_gaps) (a_least) (m_csize) (a_ctails) (a_cheads) (a_cgaps) (a_leftOut) (a_qrow) (a_line) res) (F0 m 112 ls []) := by
  obtain ⟨hx, hb, hr, hml, hown, hts, hlocks, hK, hst⟩ := id C0
  have i_X5 : ∀ w ∈ u_ws RX5 TX5 6, w ∈ wsX5_read := by decide +kernel
  have L_32 := hts (.fieldLink RX5 32 "CaseOrder$Reader" "names" "LCaseOrder$Names;") (by decide +kernel)
  have L_22 := hts (.fieldLink RX5 22 "CaseOrder$Reader" "faultKind" "I") (by decide +kernel)
  unfold f_X5_read_b112 at hf
  refine lv_aload_n hx hb dX5_read_112 rfl (lv_at hl 0 rfl) ?_
  refine g_get hx hb hts i_X5 hown hK hw 7 eC_c7 rfl 2 (by decide) L_32 (fun _ h => h) rfl dX5_read_113 ?_
  refine lv_aload_n hx hb dX5_read_116 rfl (lv_at hl 0 rfl) ?_
  refine g_get hx hb hts i_X5 hown hK hw 7 eC_c7 rfl 4 (by decide) L_22 (fun _ h => h) rfl dX5_read_117 ?_
  refine lv_if_ne (tgt := 127) hx hb dX5_read_120 (by decide) (fun c27 => ?_) (fun c27 => ?_)
  · have hf := it_n c27 hf
    refine lv_iconst (v := 0) hx hb dX5_read_127 (by decide) ?_
    exact kb_X5_read_b128 C0 hf hw (lv_sub hl [0] rfl)
  · have hf := it_p c27 hf
    refine lv_iconst (v := 1) hx hb dX5_read_123 (by decide) ?_
    refine lv_goto (tgt := 128) hx hb dX5_read_124 (by decide) ?_
    exact kb_X5_read_b128 C0 hf hw (lv_sub hl [0] rfl)
set_option maxHeartbeats 4000000 in
set_option maxRecDepth 100000 in
theorem kb_X5_read_b86 {p : Program} {l : Launch} {e : Env} {s : State} {m : MethodId} {args : Array Value} {below : List Frame} {meth : Method} {c : Code} {D : va_G} {ad : Nat → Nat} {y : Nat → ClassId} {adE adK adV : Nat → Nat} {tkA swA : Nat} (C0 : CXT wsX5_read cX5_read RX5 3 (some .boolean) D (tyL y) (STC ad adE adK adV tkA swA) p s m args meth c) {m_out : Int32} {t_draft : Nat} {m_tlen : Int32} {a_bytes : Nat → Int32} {m_nsize : Int32} {m_drafted : Int32} {a_letters : Nat → Int32} {a_nlen : Nat → Int32} {t_texts : Nat → Nat} {m_here : Int32} {m_fkind : Int32} {m_fplace : Int32} {m_toks : Int32} {t_types : Nat → Nat} {a_starts : Nat → Int32} {a_tlens : Nat → Int32} {m_heard : Int32} {m_qsize : Int32} {m_wayKnown : Int32} {m_way : Int32} {m_qKnown : Int32} {m_lineKnown : Int32} {m_nodes : Int32} {m_lsize : Int32} {a_tails : Nat → Int32} {a_heads : Nat → Int32} {a_gaps : Nat → Int32} {a_least : Nat → Int32} {m_csize : Int32} {a_ctails : Nat → Int32} {a_cheads : Nat → Int32} {a_cgaps : Nat → Int32} {a_leftOut : Nat → Int32} {a_qrow : Nat → Int32} {a_line : Nat → Int32} {a_tsize : Nat → Int32} {t_word : Nat → Nat} {a_own : Nat → Int32} {a_oth : Nat → Int32} {a_fst : Nat → Int32} {a_snd : Nat → Int32} {a_plc : Nat → Int32}    {res : Int32 × Int32 × Int32 × (Nat → Int32) × (Nat → Int32) × Int32 × Int32 × Int32 × Int32 × (Nat → Nat) × (Nat → Int32) × (Nat → Int32) × (Nat → Int32) × (Nat → Nat) × (Nat → Int32) × (Nat → Int32) × (Nat → Int32) × (Nat → Int32) × (Nat → Int32)} (hf : f_X5_read_b86 m_tlen a_bytes m_nsize m_drafted a_letters a_nlen m_here m_fkind m_fplace m_toks t_types a_starts a_tlens a_tsize t_word a_own a_oth a_fst a_snd a_plc = some res) {H : Heap} {locs : List Loc} {ls : Array Slot} (hw : Wo D ad (Aw ad 124 s.heap.size) (eC ad adE y m_out t_draft m_tlen a_bytes m_nsize m_drafted a_letters a_nlen t_texts m_here m_fkind m_fplace m_toks t_types a_starts a_tlens m_heard m_qsize m_wayKnown m_way m_qKnown m_lineKnown m_nodes m_lsize a_tails a_heads a_gaps a_least m_csize a_ctails a_cheads a_cgaps a_leftOut a_qrow a_line a_tsize t_word a_own a_oth a_fst a_snd a_plc) s.heap H locs) (hl : lv_has ls 3 [(0, .ref (ad 7))]) : W p l e rm_X5_read s m args below meth c H locs 0 0 (QM_X5_read below args s D ad y adE (m_out) (t_draft) (m_tlen) (a_bytes) (t_texts) (m_heard) (m_qsize) (m_wayKnown) (m_way) (m_qKnown) (m_lineKnown) (m_nodes) (m_lsize) (a_tails) (a_heads) (a_gaps) (a_least) (m_csize) (a_ctails) (a_cheads) (a_cgaps) (a_leftOut) (a_qrow) (a_line) res) (F0 m 86 ls []) := by
  obtain ⟨hx, hb, hr, hml, hown, hts, hlocks, hK, hst⟩ := id C0
  have i_X5 : ∀ w ∈ u_ws RX5 TX5 6, w ∈ wsX5_read := by decide +kernel
  have L_22 := hts (.fieldLink RX5 22 "CaseOrder$Reader" "faultKind" "I") (by decide +kernel)
  have L_28 := hts (.fieldLink RX5 28 "CaseOrder$Reader" "tape" "LCaseOrder$Tape;") (by decide +kernel)
  have i_X7 : ∀ w ∈ u_ws RX7 TX7 2, w ∈ wsX5_read := by decide +kernel
  have L_67 := hts (.fieldLink RX5 67 "CaseOrder$Tape" "length" "I") (by decide +kernel)
  unfold f_X5_read_b86 at hf
  refine lv_aload_n hx hb dX5_read_86 rfl (lv_at hl 0 rfl) ?_
  refine g_get hx hb hts i_X5 hown hK hw 7 eC_c7 rfl 4 (by decide) L_22 (fun _ h => h) rfl dX5_read_87 ?_
  refine lv_if_ne (tgt := 112) hx hb dX5_read_90 (by decide) (fun c26 => ?_) (fun c26 => ?_)
  · have hf := it_n c26 hf
    exact kb_X5_read_b112 C0 hf hw (lv_sub hl [0] rfl)
  · have hf := it_p c26 hf
    refine lv_aload_n hx hb dX5_read_93 rfl (lv_at hl 0 rfl) ?_
    refine g_get hx hb hts i_X5 hown hK hw 7 eC_c7 rfl 1 (by decide) L_28 (fun _ h => h) rfl dX5_read_94 ?_
    refine g_get hx hb hts i_X7 hown hK hw 1 eC_c1 rfl 1 (by decide) L_67 (fun _ h => h) rfl dX5_read_97 ?_
    refine lv_sipush (v := 400) hx hb dX5_read_100 (by decide) ?_
    refine lv_icmp_le (tgt := 112) hx hb dX5_read_103 (by decide) (fun c30 => ?_) (fun c30 => ?_)
    · have hf := it_p c30 hf
      exact kb_X5_read_b112 C0 hf hw (lv_sub hl [0] rfl)
    · have hf := it_n c30 hf
      refine lv_aload_n hx hb dX5_read_106 rfl (lv_at hl 0 rfl) ?_
      refine lv_iconst (v := 1) hx hb dX5_read_107 (by decide) ?_
      obtain ⟨q31, hq31, hf⟩ := bd hf
      refine g_Vi (As := [.int 1]) (rest := []) ⟨hx, hb, hml, hown, hts⟩ (k_X5_refuse hq31) (cwV 1 hts gX5_read_X5_refuse rfl rfl rfl (by decide +kernel) ⟨Nat.le_of_ble_eq_true rfl, Nat.le_of_ble_eq_true rfl⟩) STC_ok hst hK hw (eC_len.trans eC_len.symm) eC_c7 rfl rfl hl.1 rfl (Nat.le_of_ble_eq_true rfl) dX5_read_108 ⟨Nat.zero_le _, Nat.zero_le _⟩ (fun H locs hw => ?_)
      have hw : Wo D ad (Aw ad 124 s.heap.size) (eC ad adE y m_out t_draft m_tlen a_bytes m_nsize m_drafted a_letters a_nlen t_texts m_here q31.2.1 q31.2.2 m_toks t_types a_starts a_tlens m_heard m_qsize m_wayKnown m_way m_qKnown m_lineKnown m_nodes m_lsize a_tails a_heads a_gaps a_least m_csize a_ctails a_cheads a_cgaps a_leftOut a_qrow a_line a_tsize t_word a_own a_oth a_fst a_snd a_plc) s.heap H locs := hw
      refine lv_pop hx hb dX5_read_111 rfl ?_
      exact kb_X5_read_b112 C0 hf hw (lv_sub hl [0] rfl)
set_option maxHeartbeats 4000000 in
set_option maxRecDepth 100000 in
theorem ke_X5_read {p : Program} {l : Launch} {e : Env} {s : State} {m : MethodId} {args : Array Value} {below : List Frame} {meth : Method} {c : Code} {D : va_G} {ad : Nat → Nat} {y : Nat → ClassId} {adE adK adV : Nat → Nat} {tkA swA : Nat} (C0 : CXT wsX5_read cX5_read RX5 3 (some .boolean) D (tyL y) (STC ad adE adK adV tkA swA) p s m args meth c) {m_out : Int32} {t_draft : Nat} {m_tlen : Int32} {a_bytes : Nat → Int32} {m_nsize : Int32} {m_drafted : Int32} {a_letters : Nat → Int32} {a_nlen : Nat → Int32} {t_texts : Nat → Nat} {m_here : Int32} {m_fkind : Int32} {m_fplace : Int32} {m_toks : Int32} {t_types : Nat → Nat} {a_starts : Nat → Int32} {a_tlens : Nat → Int32} {m_heard : Int32} {m_qsize : Int32} {m_wayKnown : Int32} {m_way : Int32} {m_qKnown : Int32} {m_lineKnown : Int32} {m_nodes : Int32} {m_lsize : Int32} {a_tails : Nat → Int32} {a_heads : Nat → Int32} {a_gaps : Nat → Int32} {a_least : Nat → Int32} {m_csize : Int32} {a_ctails : Nat → Int32} {a_cheads : Nat → Int32} {a_cgaps : Nat → Int32} {a_leftOut : Nat → Int32} {a_qrow : Nat → Int32} {a_line : Nat → Int32} {a_tsize : Nat → Int32} {t_word : Nat → Nat} {a_own : Nat → Int32} {a_oth : Nat → Int32} {a_fst : Nat → Int32} {a_snd : Nat → Int32} {a_plc : Nat → Int32} {p1 : Nat} {res : Int32 × Int32 × Int32 × (Nat → Int32) × (Nat → Int32) × Int32 × Int32 × Int32 × Int32 × (Nat → Nat) × (Nat → Int32) × (Nat → Int32) × (Nat → Int32) × (Nat → Nat) × (Nat → Int32) × (Nat → Int32) × (Nat → Int32) × (Nat → Int32) × (Nat → Int32)} (hf : f_X5_read m_tlen a_bytes m_nsize m_drafted a_letters a_nlen m_here m_fkind m_fplace m_toks t_types a_starts a_tlens a_tsize t_word a_own a_oth a_fst a_snd a_plc p1 = some res) {H : Heap} {locs : List Loc} {ls : Array Slot} (hw : Wo D ad (Aw ad 124 s.heap.size) (eC ad adE y m_out t_draft m_tlen a_bytes m_nsize m_drafted a_letters a_nlen t_texts m_here m_fkind m_fplace m_toks t_types a_starts a_tlens m_heard m_qsize m_wayKnown m_way m_qKnown m_lineKnown m_nodes m_lsize a_tails a_heads a_gaps a_least m_csize a_ctails a_cheads a_cgaps a_leftOut a_qrow a_line a_tsize t_word a_own a_oth a_fst a_snd a_plc) s.heap H locs) (hl : lv_has ls 3 [(0, .ref (ad 7)), (1, .ref (ad (26 + p1)))]) : W p l e rm_X5_read s m args below meth c H locs 0 0 (QM_X5_read below args s D ad y adE (m_out) (t_draft) (m_tlen) (a_bytes) (t_texts) (m_heard) (m_qsize) (m_wayKnown) (m_way) (m_qKnown) (m_lineKnown) (m_nodes) (m_lsize) (a_tails) (a_heads) (a_gaps) (a_least) (m_csize) (a_ctails) (a_cheads) (a_cgaps) (a_leftOut) (a_qrow) (a_line) res) (F0 m 0 ls []) := by
  obtain ⟨hx, hb, hr, hml, hown, hts, hlocks, hK, hst⟩ := id C0
  have i_X5 : ∀ w ∈ u_ws RX5 TX5 6, w ∈ wsX5_read := by decide +kernel
  have L_12 := hts (.fieldLink RX5 12 "CaseOrder$Reader" "tokens" "LCaseOrder$Tokens;") (by decide +kernel)
  have L_28 := hts (.fieldLink RX5 28 "CaseOrder$Reader" "tape" "LCaseOrder$Tape;") (by decide +kernel)
  have L_18 := hts (.fieldLink RX5 18 "CaseOrder$Reader" "here" "I") (by decide +kernel)
  have L_22 := hts (.fieldLink RX5 22 "CaseOrder$Reader" "faultKind" "I") (by decide +kernel)
  have i_X8 : ∀ w ∈ u_ws RX8 TX8 2, w ∈ wsX5_read := by decide +kernel
  have L_40 := hts (.fieldLink RX5 40 "CaseOrder$Text" "size" "I") (by decide +kernel)
  unfold f_X5_read at hf
  refine lv_aload_n hx hb dX5_read_0 rfl (lv_at hl 0 rfl) ?_
  refine g_get hx hb hts i_X5 hown hK hw 7 eC_c7 rfl 0 (by decide) L_12 (fun _ h => h) rfl dX5_read_1 ?_
  refine lv_aload_n hx hb dX5_read_4 rfl (lv_at hl 0 rfl) ?_
  refine g_get hx hb hts i_X5 hown hK hw 7 eC_c7 rfl 1 (by decide) L_28 (fun _ h => h) rfl dX5_read_5 ?_
  obtain ⟨q12, hq12, hf⟩ := bd hf
  refine g_Vv (As := [.ref (ad 1)]) (rest := []) ⟨hx, hb, hml, hown, hts⟩ (k_X10_cut hq12) (cwV 1 hts gX5_read_X10_cut rfl rfl rfl (by decide +kernel) ⟨Nat.le_of_ble_eq_true rfl, Nat.le_of_ble_eq_true rfl⟩) STC_ok hst hK hw (eC_len.trans eC_len.symm) eC_c8 rfl rfl hl.1 rfl (Nat.le_of_ble_eq_true rfl) dX5_read_8 ⟨Nat.zero_le _, Nat.zero_le _⟩ (fun H locs hw => ?_)
  have hw : Wo D ad (Aw ad 124 s.heap.size) (eC ad adE y m_out t_draft m_tlen a_bytes m_nsize m_drafted a_letters a_nlen t_texts m_here m_fkind m_fplace q12.1 q12.2.1 q12.2.2.1 q12.2.2.2 m_heard m_qsize m_wayKnown m_way m_qKnown m_lineKnown m_nodes m_lsize a_tails a_heads a_gaps a_least m_csize a_ctails a_cheads a_cgaps a_leftOut a_qrow a_line a_tsize t_word a_own a_oth a_fst a_snd a_plc) s.heap H locs := hw
  refine lv_aload_n hx hb dX5_read_11 rfl (lv_at hl 0 rfl) ?_
  refine lv_iconst (v := 0) hx hb dX5_read_12 (by decide) ?_
  refine g_put (ty := .int) hx hb hts i_X5 tyX5 tyX5_ok nmX5 hown hK hw 7 eC_c7 rfl 3 (by decide) L_18 (fun _ h => h) rfl (by decide +kernel) rfl rfl (Nat.le_of_ble_eq_true rfl) dX5_read_13 (fun H locs hw => ?_)
  have hw : Wo D ad (Aw ad 124 s.heap.size) (eC ad adE y m_out t_draft m_tlen a_bytes m_nsize m_drafted a_letters a_nlen t_texts 0 m_fkind m_fplace q12.1 q12.2.1 q12.2.2.1 q12.2.2.2 m_heard m_qsize m_wayKnown m_way m_qKnown m_lineKnown m_nodes m_lsize a_tails a_heads a_gaps a_least m_csize a_ctails a_cheads a_cgaps a_leftOut a_qrow a_line a_tsize t_word a_own a_oth a_fst a_snd a_plc) s.heap H locs := hw
  refine lv_aload_n hx hb dX5_read_16 rfl (lv_at hl 0 rfl) ?_
  refine lv_iconst (v := 0) hx hb dX5_read_17 (by decide) ?_
  refine g_put (ty := .int) hx hb hts i_X5 tyX5 tyX5_ok nmX5 hown hK hw 7 eC_c7 rfl 4 (by decide) L_22 (fun _ h => h) rfl (by decide +kernel) rfl rfl (Nat.le_of_ble_eq_true rfl) dX5_read_18 (fun H locs hw => ?_)
  have hw : Wo D ad (Aw ad 124 s.heap.size) (eC ad adE y m_out t_draft m_tlen a_bytes m_nsize m_drafted a_letters a_nlen t_texts 0 0 m_fplace q12.1 q12.2.1 q12.2.2.1 q12.2.2.2 m_heard m_qsize m_wayKnown m_way m_qKnown m_lineKnown m_nodes m_lsize a_tails a_heads a_gaps a_least m_csize a_ctails a_cheads a_cgaps a_leftOut a_qrow a_line a_tsize t_word a_own a_oth a_fst a_snd a_plc) s.heap H locs := hw
  refine lv_aload_n hx hb dX5_read_21 rfl (lv_at hl 1 rfl) ?_
  refine lv_iconst (v := 0) hx hb dX5_read_22 (by decide) ?_
  obtain ⟨g13, hf⟩ := gN_some hf
  refine g_put (ty := .int) hx hb hts i_X8 tyX8 tyX8_ok nmX8 hown hK hw (26 + p1) (eC_T g13) rfl 1 (by decide) L_40 (fun _ h => h) rfl (by decide +kernel) rfl rfl (Nat.le_of_ble_eq_true rfl) dX5_read_23 (fun H locs hw => ?_)
  rw [eC_sT g13] at hw
  have hw : Wo D ad (Aw ad 124 s.heap.size) (eC ad adE y m_out t_draft m_tlen a_bytes m_nsize m_drafted a_letters a_nlen t_texts 0 0 m_fplace q12.1 q12.2.1 q12.2.2.1 q12.2.2.2 m_heard m_qsize m_wayKnown m_way m_qKnown m_lineKnown m_nodes m_lsize a_tails a_heads a_gaps a_least m_csize a_ctails a_cheads a_cgaps a_leftOut a_qrow a_line (upd a_tsize p1 0) t_word a_own a_oth a_fst a_snd a_plc) s.heap H locs := hw
  refine lv_iconst (v := 0) hx hb dX5_read_26 (by decide) ?_
  refine lv_istore_n (lv' := [(2, .int 0), (0, .ref (ad 7)), (1, .ref (ad (26 + p1)))]) hx hb dX5_read_27 rfl hl (by decide) rfl (fun ls hl => ?_)
  obtain ⟨q25, hq25, hf⟩ := bd hf
  refine kl_X5_read_28 C0 gFU _ _ hq25 _ _ _ hw (lv_sub hl [1, 2, 0] rfl) (fun H locs ls hw hl => ?_)
  have hw : Wo D ad (Aw ad 124 s.heap.size) (eC ad adE y m_out t_draft m_tlen a_bytes m_nsize q25.2.1 q25.2.2.1 q25.2.2.2.1 t_texts q25.2.2.2.2.1 q25.2.2.2.2.2.1 q25.2.2.2.2.2.2.1 q12.1 q12.2.1 q12.2.2.1 q12.2.2.2 m_heard m_qsize m_wayKnown m_way m_qKnown m_lineKnown m_nodes m_lsize a_tails a_heads a_gaps a_least m_csize a_ctails a_cheads a_cgaps a_leftOut a_qrow a_line q25.2.2.2.2.2.2.2.1 q25.2.2.2.2.2.2.2.2.1 q25.2.2.2.2.2.2.2.2.2.1 q25.2.2.2.2.2.2.2.2.2.2.1 q25.2.2.2.2.2.2.2.2.2.2.2.1 q25.2.2.2.2.2.2.2.2.2.2.2.2.1 q25.2.2.2.2.2.2.2.2.2.2.2.2.2) s.heap H locs := hw
  have hl : lv_has ls 3 [(0, .ref (ad 7)), (1, .ref (ad (26 + p1))), (2, .int q25.1)] := hl
  exact kb_X5_read_b86 C0 hf hw (lv_sub hl [0] rfl)
set_option maxHeartbeats 4000000 in
theorem k_X5_read {l : Launch} {D : va_G} {ad : Nat → Nat} {y : Nat → ClassId} {adE adK adV : Nat → Nat} {tkA swA : Nat} {m_out : Int32} {t_draft : Nat} {m_tlen : Int32} {a_bytes : Nat → Int32} {m_nsize : Int32} {m_drafted : Int32} {a_letters : Nat → Int32} {a_nlen : Nat → Int32} {t_texts : Nat → Nat} {m_here : Int32} {m_fkind : Int32} {m_fplace : Int32} {m_toks : Int32} {t_types : Nat → Nat} {a_starts : Nat → Int32} {a_tlens : Nat → Int32} {m_heard : Int32} {m_qsize : Int32} {m_wayKnown : Int32} {m_way : Int32} {m_qKnown : Int32} {m_lineKnown : Int32} {m_nodes : Int32} {m_lsize : Int32} {a_tails : Nat → Int32} {a_heads : Nat → Int32} {a_gaps : Nat → Int32} {a_least : Nat → Int32} {m_csize : Int32} {a_ctails : Nat → Int32} {a_cheads : Nat → Int32} {a_cgaps : Nat → Int32} {a_leftOut : Nat → Int32} {a_qrow : Nat → Int32} {a_line : Nat → Int32} {a_tsize : Nat → Int32} {t_word : Nat → Nat} {a_own : Nat → Int32} {a_oth : Nat → Int32} {a_fst : Nat → Int32} {a_snd : Nat → Int32} {a_plc : Nat → Int32} {p1 : Nat} {res : Int32 × Int32 × Int32 × (Nat → Int32) × (Nat → Int32) × Int32 × Int32 × Int32 × Int32 × (Nat → Nat) × (Nat → Int32) × (Nat → Int32) × (Nat → Int32) × (Nat → Nat) × (Nat → Int32) × (Nat → Int32) × (Nat → Int32) × (Nat → Int32) × (Nat → Int32)} (hf : f_X5_read m_tlen a_bytes m_nsize m_drafted a_letters a_nlen m_here m_fkind m_fplace m_toks t_types a_starts a_tlens a_tsize t_word a_own a_oth a_fst a_snd a_plc p1 = some res) : CTi l yX5_read wsX5_read rm_X5_read D ad 124 (tyL y) (STC ad adE adK adV tkA swA) (eC ad adE y m_out t_draft m_tlen a_bytes m_nsize m_drafted a_letters a_nlen t_texts m_here m_fkind m_fplace m_toks t_types a_starts a_tlens m_heard m_qsize m_wayKnown m_way m_qKnown m_lineKnown m_nodes m_lsize a_tails a_heads a_gaps a_least m_csize a_ctails a_cheads a_cgaps a_leftOut a_qrow a_line a_tsize t_word a_own a_oth a_fst a_snd a_plc) (eC ad adE y m_out t_draft m_tlen a_bytes res.2.1 res.2.2.1 res.2.2.2.1 res.2.2.2.2.1 t_texts res.2.2.2.2.2.1 res.2.2.2.2.2.2.1 res.2.2.2.2.2.2.2.1 res.2.2.2.2.2.2.2.2.1 res.2.2.2.2.2.2.2.2.2.1 res.2.2.2.2.2.2.2.2.2.2.1 res.2.2.2.2.2.2.2.2.2.2.2.1 m_heard m_qsize m_wayKnown m_way m_qKnown m_lineKnown m_nodes m_lsize a_tails a_heads a_gaps a_least m_csize a_ctails a_cheads a_cgaps a_leftOut a_qrow a_line res.2.2.2.2.2.2.2.2.2.2.2.2.1 res.2.2.2.2.2.2.2.2.2.2.2.2.2.1 res.2.2.2.2.2.2.2.2.2.2.2.2.2.2.1 res.2.2.2.2.2.2.2.2.2.2.2.2.2.2.2.1 res.2.2.2.2.2.2.2.2.2.2.2.2.2.2.2.2.1 res.2.2.2.2.2.2.2.2.2.2.2.2.2.2.2.2.2.1 res.2.2.2.2.2.2.2.2.2.2.2.2.2.2.2.2.2.2) [.ref (ad 7), .ref (ad (26 + p1))] res.1 := by
  intro sz
  refine Met.ofW (cc := cX5_read) (maxL := 3) (ret := (some .boolean)) (by decide) rfl ?_
  intro p e s m args below meth c s₁ B hml hv
  obtain ⟨rfl, hsz, hP, hK, hD0, hst⟩ := hv
  subst hsz
  have C0 : CXT wsX5_read cX5_read RX5 3 (some .boolean) D (tyL y) (STC ad adE adK adV tkA swA) p s m ([.ref (ad 7), .ref (ad (26 + p1))] : List Value).toArray meth c := ⟨B.exec, B.bytes, B.returns, hml, findClass_of_methodNamed B.named, atoms_spec (ws := wsX5_read) B.pre, B.notSynchronized, hK, hst⟩
  have hw := g_start (n := 124) eC_len hP hD0
  have hl := lv_entry ([.ref (ad 7), .ref (ad (26 + p1))]) (n := 3) (Nat.le_of_ble_eq_true rfl)
  rw [lg_entry_eq]
  generalize (lg_sl ([.ref (ad 7), .ref (ad (26 + p1))]) ++ List.replicate (3 - (lg_sl ([.ref (ad 7), .ref (ad (26 + p1))])).length) Slot.unset).toArray = ls at hl ⊢
  have hl : lv_has ls 3 [(0, .ref (ad 7)), (1, .ref (ad (26 + p1)))] := hl
  exact ke_X5_read C0 hf hw hl
abbrev rm_X1_forget : Room := { frames := 0, cells := 0, slots := 0, locals := 0 }
abbrev QM_X1_forget (below : List Frame) (args : Array Value) (s : State) (D : va_G) (ad : Nat → Nat) (y : Nat → ClassId) (adE : Nat → Nat) (m_out : Int32) (t_draft : Nat) (m_tlen : Int32) (a_bytes : Nat → Int32) (m_nsize : Int32) (m_drafted : Int32) (a_letters : Nat → Int32) (a_nlen : Nat → Int32) (t_texts : Nat → Nat) (m_here : Int32) (m_fkind : Int32) (m_fplace : Int32) (m_toks : Int32) (t_types : Nat → Nat) (a_starts : Nat → Int32) (a_tlens : Nat → Int32) (m_heard : Int32) (m_qsize : Int32) (m_way : Int32) (m_nodes : Int32) (m_lsize : Int32) (a_tails : Nat → Int32) (a_heads : Nat → Int32) (a_gaps : Nat → Int32) (a_least : Nat → Int32) (m_csize : Int32) (a_ctails : Nat → Int32) (a_cheads : Nat → Int32) (a_cgaps : Nat → Int32) (a_leftOut : Nat → Int32) (a_qrow : Nat → Int32) (a_line : Nat → Int32) (a_tsize : Nat → Int32) (t_word : Nat → Nat) (a_own : Nat → Int32) (a_oth : Nat → Int32) (a_fst : Nat → Int32) (a_snd : Nat → Int32) (a_plc : Nat → Int32) (res : Int32 × Int32 × Int32) : State → Prop := MQ below (va_Qv (fun (_ : Unit) => True) (fun _ t => va_P D vwCl (wls ad (eC ad adE y m_out t_draft m_tlen a_bytes m_nsize m_drafted a_letters a_nlen t_texts m_here m_fkind m_fplace m_toks t_types a_starts a_tlens m_heard m_qsize res.1 m_way res.2.1 res.2.2 m_nodes m_lsize a_tails a_heads a_gaps a_least m_csize a_ctails a_cheads a_cgaps a_leftOut a_qrow a_line a_tsize t_word a_own a_oth a_fst a_snd a_plc)) t.heap) (Aw ad 124 s.heap.size)) args s 0 0 (Aw ad 124 s.heap.size)
set_option maxHeartbeats 4000000 in
set_option maxRecDepth 100000 in
theorem ke_X1_forget {p : Program} {l : Launch} {e : Env} {s : State} {m : MethodId} {args : Array Value} {below : List Frame} {meth : Method} {c : Code} {D : va_G} {ad : Nat → Nat} {y : Nat → ClassId} {adE adK adV : Nat → Nat} {tkA swA : Nat} (C0 : CXT wsX1_forget cX1_forget RX1 1 none D (tyL y) (STC ad adE adK adV tkA swA) p s m args meth c) {m_out : Int32} {t_draft : Nat} {m_tlen : Int32} {a_bytes : Nat → Int32} {m_nsize : Int32} {m_drafted : Int32} {a_letters : Nat → Int32} {a_nlen : Nat → Int32} {t_texts : Nat → Nat} {m_here : Int32} {m_fkind : Int32} {m_fplace : Int32} {m_toks : Int32} {t_types : Nat → Nat} {a_starts : Nat → Int32} {a_tlens : Nat → Int32} {m_heard : Int32} {m_qsize : Int32} {m_wayKnown : Int32} {m_way : Int32} {m_qKnown : Int32} {m_lineKnown : Int32} {m_nodes : Int32} {m_lsize : Int32} {a_tails : Nat → Int32} {a_heads : Nat → Int32} {a_gaps : Nat → Int32} {a_least : Nat → Int32} {m_csize : Int32} {a_ctails : Nat → Int32} {a_cheads : Nat → Int32} {a_cgaps : Nat → Int32} {a_leftOut : Nat → Int32} {a_qrow : Nat → Int32} {a_line : Nat → Int32} {a_tsize : Nat → Int32} {t_word : Nat → Nat} {a_own : Nat → Int32} {a_oth : Nat → Int32} {a_fst : Nat → Int32} {a_snd : Nat → Int32} {a_plc : Nat → Int32}  {res : Int32 × Int32 × Int32} (hf : f_X1_forget m_wayKnown m_qKnown m_lineKnown = some res) {H : Heap} {locs : List Loc} {ls : Array Slot} (hw : Wo D ad (Aw ad 124 s.heap.size) (eC ad adE y m_out t_draft m_tlen a_bytes m_nsize m_drafted a_letters a_nlen t_texts m_here m_fkind m_fplace m_toks t_types a_starts a_tlens m_heard m_qsize m_wayKnown m_way m_qKnown m_lineKnown m_nodes m_lsize a_tails a_heads a_gaps a_least m_csize a_ctails a_cheads a_cgaps a_leftOut a_qrow a_line a_tsize t_word a_own a_oth a_fst a_snd a_plc) s.heap H locs) (hl : lv_has ls 1 [(0, .ref (ad 12))]) : W p l e rm_X1_forget s m args below meth c H locs 0 0 (QM_X1_forget below args s D ad y adE (m_out) (t_draft) (m_tlen) (a_bytes) (m_nsize) (m_drafted) (a_letters) (a_nlen) (t_texts) (m_here) (m_fkind) (m_fplace) (m_toks) (t_types) (a_starts) (a_tlens) (m_heard) (m_qsize) (m_way) (m_nodes) (m_lsize) (a_tails) (a_heads) (a_gaps) (a_least) (m_csize) (a_ctails) (a_cheads) (a_cgaps) (a_leftOut) (a_qrow) (a_line) (a_tsize) (t_word) (a_own) (a_oth) (a_fst) (a_snd) (a_plc) res) (F0 m 0 ls []) := by
  obtain ⟨hx, hb, hr, hml, hown, hts, hlocks, hK, hst⟩ := id C0
  have i_X1 : ∀ w ∈ u_ws RX1 TX1 13, w ∈ wsX1_forget := by decide +kernel
  have L_45 := hts (.fieldLink RX1 45 "CaseOrder$Hearing" "wayKnown" "Z") (by decide +kernel)
  have L_52 := hts (.fieldLink RX1 52 "CaseOrder$Hearing" "quarrelKnown" "Z") (by decide +kernel)
  have L_55 := hts (.fieldLink RX1 55 "CaseOrder$Hearing" "lineKnown" "Z") (by decide +kernel)
  unfold f_X1_forget at hf
  refine lv_aload_n hx hb dX1_forget_0 rfl (lv_at hl 0 rfl) ?_
  refine lv_iconst (v := 0) hx hb dX1_forget_1 (by decide) ?_
  refine g_put (ty := .boolean) hx hb hts i_X1 tyX1 tyX1_ok nmX1 hown hK hw 12 eC_c12 rfl 9 (by decide) L_45 (fun _ h => h) rfl (by decide +kernel) rfl rfl (Nat.le_of_ble_eq_true rfl) dX1_forget_2 (fun H locs hw => ?_)
  have hw : Wo D ad (Aw ad 124 s.heap.size) (eC ad adE y m_out t_draft m_tlen a_bytes m_nsize m_drafted a_letters a_nlen t_texts m_here m_fkind m_fplace m_toks t_types a_starts a_tlens m_heard m_qsize 0 m_way m_qKnown m_lineKnown m_nodes m_lsize a_tails a_heads a_gaps a_least m_csize a_ctails a_cheads a_cgaps a_leftOut a_qrow a_line a_tsize t_word a_own a_oth a_fst a_snd a_plc) s.heap H locs := hw
  refine lv_aload_n hx hb dX1_forget_5 rfl (lv_at hl 0 rfl) ?_
  refine lv_iconst (v := 0) hx hb dX1_forget_6 (by decide) ?_
  refine g_put (ty := .boolean) hx hb hts i_X1 tyX1 tyX1_ok nmX1 hown hK hw 12 eC_c12 rfl 11 (by decide) L_52 (fun _ h => h) rfl (by decide +kernel) rfl rfl (Nat.le_of_ble_eq_true rfl) dX1_forget_7 (fun H locs hw => ?_)
  have hw : Wo D ad (Aw ad 124 s.heap.size) (eC ad adE y m_out t_draft m_tlen a_bytes m_nsize m_drafted a_letters a_nlen t_texts m_here m_fkind m_fplace m_toks t_types a_starts a_tlens m_heard m_qsize 0 m_way 0 m_lineKnown m_nodes m_lsize a_tails a_heads a_gaps a_least m_csize a_ctails a_cheads a_cgaps a_leftOut a_qrow a_line a_tsize t_word a_own a_oth a_fst a_snd a_plc) s.heap H locs := hw
  refine lv_aload_n hx hb dX1_forget_10 rfl (lv_at hl 0 rfl) ?_
  refine lv_iconst (v := 0) hx hb dX1_forget_11 (by decide) ?_
  refine g_put (ty := .boolean) hx hb hts i_X1 tyX1 tyX1_ok nmX1 hown hK hw 12 eC_c12 rfl 12 (by decide) L_55 (fun _ h => h) rfl (by decide +kernel) rfl rfl (Nat.le_of_ble_eq_true rfl) dX1_forget_12 (fun H locs hw => ?_)
  have hw : Wo D ad (Aw ad 124 s.heap.size) (eC ad adE y m_out t_draft m_tlen a_bytes m_nsize m_drafted a_letters a_nlen t_texts m_here m_fkind m_fplace m_toks t_types a_starts a_tlens m_heard m_qsize 0 m_way 0 0 m_nodes m_lsize a_tails a_heads a_gaps a_least m_csize a_ctails a_cheads a_cgaps a_leftOut a_qrow a_line a_tsize t_word a_own a_oth a_fst a_snd a_plc) s.heap H locs := hw
  obtain rfl := so hf
  exact W.vret hx hb hr (fun t ht _ => g_endv hw t ht) hw.2.2.2.2 dX1_forget_15
set_option maxHeartbeats 4000000 in
theorem k_X1_forget {l : Launch} {D : va_G} {ad : Nat → Nat} {y : Nat → ClassId} {adE adK adV : Nat → Nat} {tkA swA : Nat} {m_out : Int32} {t_draft : Nat} {m_tlen : Int32} {a_bytes : Nat → Int32} {m_nsize : Int32} {m_drafted : Int32} {a_letters : Nat → Int32} {a_nlen : Nat → Int32} {t_texts : Nat → Nat} {m_here : Int32} {m_fkind : Int32} {m_fplace : Int32} {m_toks : Int32} {t_types : Nat → Nat} {a_starts : Nat → Int32} {a_tlens : Nat → Int32} {m_heard : Int32} {m_qsize : Int32} {m_wayKnown : Int32} {m_way : Int32} {m_qKnown : Int32} {m_lineKnown : Int32} {m_nodes : Int32} {m_lsize : Int32} {a_tails : Nat → Int32} {a_heads : Nat → Int32} {a_gaps : Nat → Int32} {a_least : Nat → Int32} {m_csize : Int32} {a_ctails : Nat → Int32} {a_cheads : Nat → Int32} {a_cgaps : Nat → Int32} {a_leftOut : Nat → Int32} {a_qrow : Nat → Int32} {a_line : Nat → Int32} {a_tsize : Nat → Int32} {t_word : Nat → Nat} {a_own : Nat → Int32} {a_oth : Nat → Int32} {a_fst : Nat → Int32} {a_snd : Nat → Int32} {a_plc : Nat → Int32}  {res : Int32 × Int32 × Int32} (hf : f_X1_forget m_wayKnown m_qKnown m_lineKnown = some res) : CTv l yX1_forget wsX1_forget rm_X1_forget D ad 124 (tyL y) (STC ad adE adK adV tkA swA) (eC ad adE y m_out t_draft m_tlen a_bytes m_nsize m_drafted a_letters a_nlen t_texts m_here m_fkind m_fplace m_toks t_types a_starts a_tlens m_heard m_qsize m_wayKnown m_way m_qKnown m_lineKnown m_nodes m_lsize a_tails a_heads a_gaps a_least m_csize a_ctails a_cheads a_cgaps a_leftOut a_qrow a_line a_tsize t_word a_own a_oth a_fst a_snd a_plc) (eC ad adE y m_out t_draft m_tlen a_bytes m_nsize m_drafted a_letters a_nlen t_texts m_here m_fkind m_fplace m_toks t_types a_starts a_tlens m_heard m_qsize res.1 m_way res.2.1 res.2.2 m_nodes m_lsize a_tails a_heads a_gaps a_least m_csize a_ctails a_cheads a_cgaps a_leftOut a_qrow a_line a_tsize t_word a_own a_oth a_fst a_snd a_plc) [.ref (ad 12)] := by
  intro sz
  refine Met.ofW (cc := cX1_forget) (maxL := 1) (ret := none) (by decide) rfl ?_
  intro p e s m args below meth c s₁ B hml hv
  obtain ⟨rfl, hsz, hP, hK, hD0, hst⟩ := hv
  subst hsz
  have C0 : CXT wsX1_forget cX1_forget RX1 1 none D (tyL y) (STC ad adE adK adV tkA swA) p s m ([.ref (ad 12)] : List Value).toArray meth c := ⟨B.exec, B.bytes, B.returns, hml, findClass_of_methodNamed B.named, atoms_spec (ws := wsX1_forget) B.pre, B.notSynchronized, hK, hst⟩
  have hw := g_start (n := 124) eC_len hP hD0
  have hl := lv_entry ([.ref (ad 12)]) (n := 1) (Nat.le_of_ble_eq_true rfl)
  rw [lg_entry_eq]
  generalize (lg_sl ([.ref (ad 12)]) ++ List.replicate (1 - (lg_sl ([.ref (ad 12)])).length) Slot.unset).toArray = ls at hl ⊢
  have hl : lv_has ls 1 [(0, .ref (ad 12))] := hl
  exact ke_X1_forget C0 hf hw hl
abbrev rm_X1_hears : Room := { frames := 0, cells := 0, slots := 0, locals := 0 }
abbrev QM_X1_hears (below : List Frame) (args : Array Value) (s : State) (D : va_G) (ad : Nat → Nat) (y : Nat → ClassId) (adE : Nat → Nat) (m_out : Int32) (t_draft : Nat) (m_tlen : Int32) (a_bytes : Nat → Int32) (m_nsize : Int32) (m_drafted : Int32) (a_letters : Nat → Int32) (a_nlen : Nat → Int32) (t_texts : Nat → Nat) (m_here : Int32) (m_fkind : Int32) (m_fplace : Int32) (m_toks : Int32) (t_types : Nat → Nat) (a_starts : Nat → Int32) (a_tlens : Nat → Int32) (m_heard : Int32) (m_qsize : Int32) (m_wayKnown : Int32) (m_way : Int32) (m_qKnown : Int32) (m_lineKnown : Int32) (m_nodes : Int32) (m_lsize : Int32) (a_tails : Nat → Int32) (a_heads : Nat → Int32) (a_gaps : Nat → Int32) (a_least : Nat → Int32) (m_csize : Int32) (a_ctails : Nat → Int32) (a_cheads : Nat → Int32) (a_cgaps : Nat → Int32) (a_leftOut : Nat → Int32) (a_qrow : Nat → Int32) (a_line : Nat → Int32) (a_tsize : Nat → Int32) (t_word : Nat → Nat) (a_own : Nat → Int32) (a_oth : Nat → Int32) (a_fst : Nat → Int32) (a_snd : Nat → Int32) (a_plc : Nat → Int32) (res : Int32) : State → Prop := MQ below (va_Qi (fun x (_ : Unit) => x = res) (fun _ t => va_P D vwCl (wls ad (eC ad adE y m_out t_draft m_tlen a_bytes m_nsize m_drafted a_letters a_nlen t_texts m_here m_fkind m_fplace m_toks t_types a_starts a_tlens m_heard m_qsize m_wayKnown m_way m_qKnown m_lineKnown m_nodes m_lsize a_tails a_heads a_gaps a_least m_csize a_ctails a_cheads a_cgaps a_leftOut a_qrow a_line a_tsize t_word a_own a_oth a_fst a_snd a_plc)) t.heap) (Aw ad 124 s.heap.size)) args s 0 0 (Aw ad 124 s.heap.size)
set_option maxHeartbeats 4000000 in
set_option maxRecDepth 100000 in
theorem ke_X1_hears {p : Program} {l : Launch} {e : Env} {s : State} {m : MethodId} {args : Array Value} {below : List Frame} {meth : Method} {c : Code} {D : va_G} {ad : Nat → Nat} {y : Nat → ClassId} {adE adK adV : Nat → Nat} {tkA swA : Nat} (C0 : CXT wsX1_hears cX1_hears RX1 2 (some .boolean) D (tyL y) (STC ad adE adK adV tkA swA) p s m args meth c) {m_out : Int32} {t_draft : Nat} {m_tlen : Int32} {a_bytes : Nat → Int32} {m_nsize : Int32} {m_drafted : Int32} {a_letters : Nat → Int32} {a_nlen : Nat → Int32} {t_texts : Nat → Nat} {m_here : Int32} {m_fkind : Int32} {m_fplace : Int32} {m_toks : Int32} {t_types : Nat → Nat} {a_starts : Nat → Int32} {a_tlens : Nat → Int32} {m_heard : Int32} {m_qsize : Int32} {m_wayKnown : Int32} {m_way : Int32} {m_qKnown : Int32} {m_lineKnown : Int32} {m_nodes : Int32} {m_lsize : Int32} {a_tails : Nat → Int32} {a_heads : Nat → Int32} {a_gaps : Nat → Int32} {a_least : Nat → Int32} {m_csize : Int32} {a_ctails : Nat → Int32} {a_cheads : Nat → Int32} {a_cgaps : Nat → Int32} {a_leftOut : Nat → Int32} {a_qrow : Nat → Int32} {a_line : Nat → Int32} {a_tsize : Nat → Int32} {t_word : Nat → Nat} {a_own : Nat → Int32} {a_oth : Nat → Int32} {a_fst : Nat → Int32} {a_snd : Nat → Int32} {a_plc : Nat → Int32} {p1 : Int32} {res : Int32} (hf : f_X1_hears m_heard p1 = some res) {H : Heap} {locs : List Loc} {ls : Array Slot} (hw : Wo D ad (Aw ad 124 s.heap.size) (eC ad adE y m_out t_draft m_tlen a_bytes m_nsize m_drafted a_letters a_nlen t_texts m_here m_fkind m_fplace m_toks t_types a_starts a_tlens m_heard m_qsize m_wayKnown m_way m_qKnown m_lineKnown m_nodes m_lsize a_tails a_heads a_gaps a_least m_csize a_ctails a_cheads a_cgaps a_leftOut a_qrow a_line a_tsize t_word a_own a_oth a_fst a_snd a_plc) s.heap H locs) (hl : lv_has ls 2 [(0, .ref (ad 12)), (1, .int p1)]) : W p l e rm_X1_hears s m args below meth c H locs 0 0 (QM_X1_hears below args s D ad y adE (m_out) (t_draft) (m_tlen) (a_bytes) (m_nsize) (m_drafted) (a_letters) (a_nlen) (t_texts) (m_here) (m_fkind) (m_fplace) (m_toks) (t_types) (a_starts) (a_tlens) (m_heard) (m_qsize) (m_wayKnown) (m_way) (m_qKnown) (m_lineKnown) (m_nodes) (m_lsize) (a_tails) (a_heads) (a_gaps) (a_least) (m_csize) (a_ctails) (a_cheads) (a_cgaps) (a_leftOut) (a_qrow) (a_line) (a_tsize) (t_word) (a_own) (a_oth) (a_fst) (a_snd) (a_plc) res) (F0 m 0 ls []) := by
  obtain ⟨hx, hb, hr, hml, hown, hts, hlocks, hK, hst⟩ := id C0
  have i_X1 : ∀ w ∈ u_ws RX1 TX1 13, w ∈ wsX1_hears := by decide +kernel
  have L_38 := hts (.fieldLink RX1 38 "CaseOrder$Hearing" "heard" "I") (by decide +kernel)
  unfold f_X1_hears at hf
  refine lv_aload_n hx hb dX1_hears_0 rfl (lv_at hl 0 rfl) ?_
  refine g_get hx hb hts i_X1 hown hK hw 12 eC_c12 rfl 7 (by decide) L_38 (fun _ h => h) rfl dX1_hears_1 ?_
  refine lv_iload_n hx hb dX1_hears_4 rfl (lv_at hl 1 rfl) ?_
  refine lv_ishr hx hb dX1_hears_5 ?_
  refine lv_iconst (v := 1) hx hb dX1_hears_6 (by decide) ?_
  refine lv_iand hx hb dX1_hears_7 ?_
  refine lv_iconst (v := 1) hx hb dX1_hears_8 (by decide) ?_
  refine lv_icmp_ne (tgt := 16) hx hb dX1_hears_9 (by decide) (fun c1 => ?_) (fun c1 => ?_)
  · have hf := it_n c1 hf
    refine lv_iconst (v := 0) hx hb dX1_hears_16 (by decide) ?_
    obtain rfl := so hf
    exact W.zret (v := 0) hx hb hr rfl (fun t ht _ => g_end hw t ht) hw.2.2.2.2 dX1_hears_17
  · have hf := it_p c1 hf
    refine lv_iconst (v := 1) hx hb dX1_hears_12 (by decide) ?_
    refine lv_goto (tgt := 17) hx hb dX1_hears_13 (by decide) ?_
    obtain rfl := so hf
    exact W.zret (v := 1) hx hb hr rfl (fun t ht _ => g_end hw t ht) hw.2.2.2.2 dX1_hears_17
set_option maxHeartbeats 4000000 in
theorem k_X1_hears {l : Launch} {D : va_G} {ad : Nat → Nat} {y : Nat → ClassId} {adE adK adV : Nat → Nat} {tkA swA : Nat} {m_out : Int32} {t_draft : Nat} {m_tlen : Int32} {a_bytes : Nat → Int32} {m_nsize : Int32} {m_drafted : Int32} {a_letters : Nat → Int32} {a_nlen : Nat → Int32} {t_texts : Nat → Nat} {m_here : Int32} {m_fkind : Int32} {m_fplace : Int32} {m_toks : Int32} {t_types : Nat → Nat} {a_starts : Nat → Int32} {a_tlens : Nat → Int32} {m_heard : Int32} {m_qsize : Int32} {m_wayKnown : Int32} {m_way : Int32} {m_qKnown : Int32} {m_lineKnown : Int32} {m_nodes : Int32} {m_lsize : Int32} {a_tails : Nat → Int32} {a_heads : Nat → Int32} {a_gaps : Nat → Int32} {a_least : Nat → Int32} {m_csize : Int32} {a_ctails : Nat → Int32} {a_cheads : Nat → Int32} {a_cgaps : Nat → Int32} {a_leftOut : Nat → Int32} {a_qrow : Nat → Int32} {a_line : Nat → Int32} {a_tsize : Nat → Int32} {t_word : Nat → Nat} {a_own : Nat → Int32} {a_oth : Nat → Int32} {a_fst : Nat → Int32} {a_snd : Nat → Int32} {a_plc : Nat → Int32} {p1 : Int32} {res : Int32} (hf : f_X1_hears m_heard p1 = some res) : CTi l yX1_hears wsX1_hears rm_X1_hears D ad 124 (tyL y) (STC ad adE adK adV tkA swA) (eC ad adE y m_out t_draft m_tlen a_bytes m_nsize m_drafted a_letters a_nlen t_texts m_here m_fkind m_fplace m_toks t_types a_starts a_tlens m_heard m_qsize m_wayKnown m_way m_qKnown m_lineKnown m_nodes m_lsize a_tails a_heads a_gaps a_least m_csize a_ctails a_cheads a_cgaps a_leftOut a_qrow a_line a_tsize t_word a_own a_oth a_fst a_snd a_plc) (eC ad adE y m_out t_draft m_tlen a_bytes m_nsize m_drafted a_letters a_nlen t_texts m_here m_fkind m_fplace m_toks t_types a_starts a_tlens m_heard m_qsize m_wayKnown m_way m_qKnown m_lineKnown m_nodes m_lsize a_tails a_heads a_gaps a_least m_csize a_ctails a_cheads a_cgaps a_leftOut a_qrow a_line a_tsize t_word a_own a_oth a_fst a_snd a_plc) [.ref (ad 12), .int p1] res := by
  intro sz
  refine Met.ofW (cc := cX1_hears) (maxL := 2) (ret := (some .boolean)) (by decide) rfl ?_
  intro p e s m args below meth c s₁ B hml hv
  obtain ⟨rfl, hsz, hP, hK, hD0, hst⟩ := hv
  subst hsz
  have C0 : CXT wsX1_hears cX1_hears RX1 2 (some .boolean) D (tyL y) (STC ad adE adK adV tkA swA) p s m ([.ref (ad 12), .int p1] : List Value).toArray meth c := ⟨B.exec, B.bytes, B.returns, hml, findClass_of_methodNamed B.named, atoms_spec (ws := wsX1_hears) B.pre, B.notSynchronized, hK, hst⟩
  have hw := g_start (n := 124) eC_len hP hD0
  have hl := lv_entry ([.ref (ad 12), .int p1]) (n := 2) (Nat.le_of_ble_eq_true rfl)
  rw [lg_entry_eq]
  generalize (lg_sl ([.ref (ad 12), .int p1]) ++ List.replicate (2 - (lg_sl ([.ref (ad 12), .int p1])).length) Slot.unset).toArray = ls at hl ⊢
  have hl : lv_has ls 2 [(0, .ref (ad 12)), (1, .int p1)] := hl
  exact ke_X1_hears C0 hf hw hl
abbrev rm_X1_slot : Room := { frames := 0, cells := 0, slots := 0, locals := 0 }
abbrev QM_X1_slot (below : List Frame) (args : Array Value) (s : State) (D : va_G) (ad : Nat → Nat) (y : Nat → ClassId) (adE : Nat → Nat) (m_out : Int32) (t_draft : Nat) (m_tlen : Int32) (a_bytes : Nat → Int32) (m_nsize : Int32) (m_drafted : Int32) (a_letters : Nat → Int32) (a_nlen : Nat → Int32) (t_texts : Nat → Nat) (m_here : Int32) (m_fkind : Int32) (m_fplace : Int32) (m_toks : Int32) (t_types : Nat → Nat) (a_starts : Nat → Int32) (a_tlens : Nat → Int32) (m_heard : Int32) (m_qsize : Int32) (m_wayKnown : Int32) (m_way : Int32) (m_qKnown : Int32) (m_lineKnown : Int32) (m_nodes : Int32) (m_lsize : Int32) (a_tails : Nat → Int32) (a_heads : Nat → Int32) (a_gaps : Nat → Int32) (a_least : Nat → Int32) (m_csize : Int32) (a_ctails : Nat → Int32) (a_cheads : Nat → Int32) (a_cgaps : Nat → Int32) (a_leftOut : Nat → Int32) (a_qrow : Nat → Int32) (a_line : Nat → Int32) (a_tsize : Nat → Int32) (t_word : Nat → Nat) (a_own : Nat → Int32) (a_oth : Nat → Int32) (a_fst : Nat → Int32) (a_snd : Nat → Int32) (a_plc : Nat → Int32) (res : Int32) : State → Prop := MQ below (va_Qi (fun x (_ : Unit) => x = res) (fun _ t => va_P D vwCl (wls ad (eC ad adE y m_out t_draft m_tlen a_bytes m_nsize m_drafted a_letters a_nlen t_texts m_here m_fkind m_fplace m_toks t_types a_starts a_tlens m_heard m_qsize m_wayKnown m_way m_qKnown m_lineKnown m_nodes m_lsize a_tails a_heads a_gaps a_least m_csize a_ctails a_cheads a_cgaps a_leftOut a_qrow a_line a_tsize t_word a_own a_oth a_fst a_snd a_plc)) t.heap) (Aw ad 124 s.heap.size)) args s 0 0 (Aw ad 124 s.heap.size)
set_option maxHeartbeats 4000000 in
set_option maxRecDepth 100000 in
theorem ke_X1_slot {p : Program} {l : Launch} {e : Env} {s : State} {m : MethodId} {args : Array Value} {below : List Frame} {meth : Method} {c : Code} {D : va_G} {ad : Nat → Nat} {y : Nat → ClassId} {adE adK adV : Nat → Nat} {tkA swA : Nat} (C0 : CXT wsX1_slot cX1_slot RX1 2 (some .int) D (tyL y) (STC ad adE adK adV tkA swA) p s m args meth c) {m_out : Int32} {t_draft : Nat} {m_tlen : Int32} {a_bytes : Nat → Int32} {m_nsize : Int32} {m_drafted : Int32} {a_letters : Nat → Int32} {a_nlen : Nat → Int32} {t_texts : Nat → Nat} {m_here : Int32} {m_fkind : Int32} {m_fplace : Int32} {m_toks : Int32} {t_types : Nat → Nat} {a_starts : Nat → Int32} {a_tlens : Nat → Int32} {m_heard : Int32} {m_qsize : Int32} {m_wayKnown : Int32} {m_way : Int32} {m_qKnown : Int32} {m_lineKnown : Int32} {m_nodes : Int32} {m_lsize : Int32} {a_tails : Nat → Int32} {a_heads : Nat → Int32} {a_gaps : Nat → Int32} {a_least : Nat → Int32} {m_csize : Int32} {a_ctails : Nat → Int32} {a_cheads : Nat → Int32} {a_cgaps : Nat → Int32} {a_leftOut : Nat → Int32} {a_qrow : Nat → Int32} {a_line : Nat → Int32} {a_tsize : Nat → Int32} {t_word : Nat → Nat} {a_own : Nat → Int32} {a_oth : Nat → Int32} {a_fst : Nat → Int32} {a_snd : Nat → Int32} {a_plc : Nat → Int32} {p0 : Int32} {p1 : Int32} {res : Int32} (hf : f_X1_slot p0 p1 = some res) {H : Heap} {locs : List Loc} {ls : Array Slot} (hw : Wo D ad (Aw ad 124 s.heap.size) (eC ad adE y m_out t_draft m_tlen a_bytes m_nsize m_drafted a_letters a_nlen t_texts m_here m_fkind m_fplace m_toks t_types a_starts a_tlens m_heard m_qsize m_wayKnown m_way m_qKnown m_lineKnown m_nodes m_lsize a_tails a_heads a_gaps a_least m_csize a_ctails a_cheads a_cgaps a_leftOut a_qrow a_line a_tsize t_word a_own a_oth a_fst a_snd a_plc) s.heap H locs) (hl : lv_has ls 2 [(0, .int p0), (1, .int p1)]) : W p l e rm_X1_slot s m args below meth c H locs 0 0 (QM_X1_slot below args s D ad y adE (m_out) (t_draft) (m_tlen) (a_bytes) (m_nsize) (m_drafted) (a_letters) (a_nlen) (t_texts) (m_here) (m_fkind) (m_fplace) (m_toks) (t_types) (a_starts) (a_tlens) (m_heard) (m_qsize) (m_wayKnown) (m_way) (m_qKnown) (m_lineKnown) (m_nodes) (m_lsize) (a_tails) (a_heads) (a_gaps) (a_least) (m_csize) (a_ctails) (a_cheads) (a_cgaps) (a_leftOut) (a_qrow) (a_line) (a_tsize) (t_word) (a_own) (a_oth) (a_fst) (a_snd) (a_plc) res) (F0 m 0 ls []) := by
  obtain ⟨hx, hb, hr, hml, hown, hts, hlocks, hK, hst⟩ := id C0
  unfold f_X1_slot at hf
  refine lv_iload_n hx hb dX1_slot_0 rfl (lv_at hl 0 rfl) ?_
  refine lv_bipush (v := 12) hx hb dX1_slot_1 (by decide) ?_
  refine lv_imul hx hb dX1_slot_3 ?_
  refine lv_iload_n hx hb dX1_slot_4 rfl (lv_at hl 1 rfl) ?_
  refine lv_iadd hx hb dX1_slot_5 ?_
  obtain rfl := so hf
  exact W.iret (v := ((p0 * 12) + p1)) hx hb hr (fun t ht _ => g_end hw t ht) hw.2.2.2.2 dX1_slot_6
set_option maxHeartbeats 4000000 in
theorem k_X1_slot {l : Launch} {D : va_G} {ad : Nat → Nat} {y : Nat → ClassId} {adE adK adV : Nat → Nat} {tkA swA : Nat} {m_out : Int32} {t_draft : Nat} {m_tlen : Int32} {a_bytes : Nat → Int32} {m_nsize : Int32} {m_drafted : Int32} {a_letters : Nat → Int32} {a_nlen : Nat → Int32} {t_texts : Nat → Nat} {m_here : Int32} {m_fkind : Int32} {m_fplace : Int32} {m_toks : Int32} {t_types : Nat → Nat} {a_starts : Nat → Int32} {a_tlens : Nat → Int32} {m_heard : Int32} {m_qsize : Int32} {m_wayKnown : Int32} {m_way : Int32} {m_qKnown : Int32} {m_lineKnown : Int32} {m_nodes : Int32} {m_lsize : Int32} {a_tails : Nat → Int32} {a_heads : Nat → Int32} {a_gaps : Nat → Int32} {a_least : Nat → Int32} {m_csize : Int32} {a_ctails : Nat → Int32} {a_cheads : Nat → Int32} {a_cgaps : Nat → Int32} {a_leftOut : Nat → Int32} {a_qrow : Nat → Int32} {a_line : Nat → Int32} {a_tsize : Nat → Int32} {t_word : Nat → Nat} {a_own : Nat → Int32} {a_oth : Nat → Int32} {a_fst : Nat → Int32} {a_snd : Nat → Int32} {a_plc : Nat → Int32} {p0 : Int32} {p1 : Int32} {res : Int32} (hf : f_X1_slot p0 p1 = some res) : CTi l yX1_slot wsX1_slot rm_X1_slot D ad 124 (tyL y) (STC ad adE adK adV tkA swA) (eC ad adE y m_out t_draft m_tlen a_bytes m_nsize m_drafted a_letters a_nlen t_texts m_here m_fkind m_fplace m_toks t_types a_starts a_tlens m_heard m_qsize m_wayKnown m_way m_qKnown m_lineKnown m_nodes m_lsize a_tails a_heads a_gaps a_least m_csize a_ctails a_cheads a_cgaps a_leftOut a_qrow a_line a_tsize t_word a_own a_oth a_fst a_snd a_plc) (eC ad adE y m_out t_draft m_tlen a_bytes m_nsize m_drafted a_letters a_nlen t_texts m_here m_fkind m_fplace m_toks t_types a_starts a_tlens m_heard m_qsize m_wayKnown m_way m_qKnown m_lineKnown m_nodes m_lsize a_tails a_heads a_gaps a_least m_csize a_ctails a_cheads a_cgaps a_leftOut a_qrow a_line a_tsize t_word a_own a_oth a_fst a_snd a_plc) [.int p0, .int p1] res := by
  intro sz
  refine Met.ofW (cc := cX1_slot) (maxL := 2) (ret := (some .int)) (by decide) rfl ?_
  intro p e s m args below meth c s₁ B hml hv
  obtain ⟨rfl, hsz, hP, hK, hD0, hst⟩ := hv
  subst hsz
  have C0 : CXT wsX1_slot cX1_slot RX1 2 (some .int) D (tyL y) (STC ad adE adK adV tkA swA) p s m ([.int p0, .int p1] : List Value).toArray meth c := ⟨B.exec, B.bytes, B.returns, hml, findClass_of_methodNamed B.named, atoms_spec (ws := wsX1_slot) B.pre, B.notSynchronized, hK, hst⟩
  have hw := g_start (n := 124) eC_len hP hD0
  have hl := lv_entry ([.int p0, .int p1]) (n := 2) (Nat.le_of_ble_eq_true rfl)
  rw [lg_entry_eq]
  generalize (lg_sl ([.int p0, .int p1]) ++ List.replicate (2 - (lg_sl ([.int p0, .int p1])).length) Slot.unset).toArray = ls at hl ⊢
  have hl : lv_has ls 2 [(0, .int p0), (1, .int p1)] := hl
  exact ke_X1_slot C0 hf hw hl
abbrev rm_X1_gather : Room := { frames := 2, cells := 0, slots := 0, locals := 46 }
abbrev QM_X1_gather (below : List Frame) (args : Array Value) (s : State) (D : va_G) (ad : Nat → Nat) (y : Nat → ClassId) (adE : Nat → Nat) (m_out : Int32) (t_draft : Nat) (m_tlen : Int32) (a_bytes : Nat → Int32) (m_nsize : Int32) (m_drafted : Int32) (a_letters : Nat → Int32) (a_nlen : Nat → Int32) (t_texts : Nat → Nat) (m_here : Int32) (m_fkind : Int32) (m_fplace : Int32) (m_toks : Int32) (t_types : Nat → Nat) (a_starts : Nat → Int32) (a_tlens : Nat → Int32) (m_heard : Int32) (m_qsize : Int32) (m_wayKnown : Int32) (m_way : Int32) (m_qKnown : Int32) (m_lineKnown : Int32) (a_least : Nat → Int32) (m_csize : Int32) (a_ctails : Nat → Int32) (a_cheads : Nat → Int32) (a_cgaps : Nat → Int32) (a_leftOut : Nat → Int32) (a_qrow : Nat → Int32) (a_line : Nat → Int32) (a_tsize : Nat → Int32) (t_word : Nat → Nat) (a_own : Nat → Int32) (a_oth : Nat → Int32) (a_fst : Nat → Int32) (a_snd : Nat → Int32) (a_plc : Nat → Int32) (res : Int32 × Int32 × (Nat → Int32) × (Nat → Int32) × (Nat → Int32)) : State → Prop := MQ below (va_Qv (fun (_ : Unit) => True) (fun _ t => va_P D vwCl (wls ad (eC ad adE y m_out t_draft m_tlen a_bytes m_nsize m_drafted a_letters a_nlen t_texts m_here m_fkind m_fplace m_toks t_types a_starts a_tlens m_heard m_qsize m_wayKnown m_way m_qKnown m_lineKnown res.1 res.2.1 res.2.2.1 res.2.2.2.1 res.2.2.2.2 a_least m_csize a_ctails a_cheads a_cgaps a_leftOut a_qrow a_line a_tsize t_word a_own a_oth a_fst a_snd a_plc)) t.heap) (Aw ad 124 s.heap.size)) args s 0 0 (Aw ad 124 s.heap.size)
set_option maxHeartbeats 4000000 in
set_option maxRecDepth 100000 in
theorem kw_X1_gather_33 {p : Program} {l : Launch} {e : Env} {s : State} {m : MethodId} {args : Array Value} {below : List Frame} {meth : Method} {c : Code} {D : va_G} {ad : Nat → Nat} {y : Nat → ClassId} {adE adK adV : Nat → Nat} {tkA swA : Nat} (C0 : CXT wsX1_gather cX1_gather RX1 4 none D (tyL y) (STC ad adE adK adV tkA swA) p s m args meth c) {m_out : Int32} {t_draft : Nat} {m_tlen : Int32} {a_bytes : Nat → Int32} {m_nsize : Int32} {m_drafted : Int32} {a_letters : Nat → Int32} {a_nlen : Nat → Int32} {t_texts : Nat → Nat} {m_here : Int32} {m_fkind : Int32} {m_fplace : Int32} {m_toks : Int32} {t_types : Nat → Nat} {a_starts : Nat → Int32} {a_tlens : Nat → Int32} {m_heard : Int32} {m_qsize : Int32} {m_wayKnown : Int32} {m_way : Int32} {m_qKnown : Int32} {m_lineKnown : Int32} {m_nodes : Int32} {a_least : Nat → Int32} {m_csize : Int32} {a_ctails : Nat → Int32} {a_cheads : Nat → Int32} {a_cgaps : Nat → Int32} {a_leftOut : Nat → Int32} {a_qrow : Nat → Int32} {a_line : Nat → Int32} {a_tsize : Nat → Int32} {t_word : Nat → Nat} {a_own : Nat → Int32} {a_oth : Nat → Int32} {a_fst : Nat → Int32} {a_snd : Nat → Int32} {a_plc : Nat → Int32} {u1 : Int32} {u2 : Int32} {res : Int32 × Int32 × (Nat → Int32) × (Nat → Int32) × (Nat → Int32)} {sg : Int32 × Int32 × (Nat → Int32) × (Nat → Int32) × (Nat → Int32)} {o : (Int32 × Int32 × (Nat → Int32) × (Nat → Int32) × (Nat → Int32)) ⊕ (Int32 × Int32 × (Nat → Int32) × (Nat → Int32) × (Nat → Int32))} (hf : f_X1_gather_l33 m_nsize t_texts m_nodes a_leftOut a_tsize t_word a_own a_oth a_fst a_snd u1 u2 sg = some o) {H : Heap} {locs : List Loc} {ls : Array Slot} (hw : Wo D ad (Aw ad 124 s.heap.size) (eC ad adE y m_out t_draft m_tlen a_bytes m_nsize m_drafted a_letters a_nlen t_texts m_here m_fkind m_fplace m_toks t_types a_starts a_tlens m_heard m_qsize m_wayKnown m_way m_qKnown m_lineKnown m_nodes sg.2.1 sg.2.2.1 sg.2.2.2.1 sg.2.2.2.2 a_least m_csize a_ctails a_cheads a_cgaps a_leftOut a_qrow a_line a_tsize t_word a_own a_oth a_fst a_snd a_plc) s.heap H locs) (hl : lv_has ls 4 [(0, .ref (ad 12)), (1, .int u1), (2, .int u2), (3, .int sg.1)]) (hcont : ∀ s2, o = .inl s2 → ∀ (H : Heap) (locs : List Loc) (ls : Array Slot), Wo D ad (Aw ad 124 s.heap.size) (eC ad adE y m_out t_draft m_tlen a_bytes m_nsize m_drafted a_letters a_nlen t_texts m_here m_fkind m_fplace m_toks t_types a_starts a_tlens m_heard m_qsize m_wayKnown m_way m_qKnown m_lineKnown m_nodes s2.2.1 s2.2.2.1 s2.2.2.2.1 s2.2.2.2.2 a_least m_csize a_ctails a_cheads a_cgaps a_leftOut a_qrow a_line a_tsize t_word a_own a_oth a_fst a_snd a_plc) s.heap H locs → lv_has ls 4 [(0, .ref (ad 12)), (1, .int u1), (2, .int u2), (3, .int s2.1)] → W p l e rm_X1_gather s m args below meth c H locs 0 0 (QM_X1_gather below args s D ad y adE (m_out) (t_draft) (m_tlen) (a_bytes) (m_nsize) (m_drafted) (a_letters) (a_nlen) (t_texts) (m_here) (m_fkind) (m_fplace) (m_toks) (t_types) (a_starts) (a_tlens) (m_heard) (m_qsize) (m_wayKnown) (m_way) (m_qKnown) (m_lineKnown) (a_least) (m_csize) (a_ctails) (a_cheads) (a_cgaps) (a_leftOut) (a_qrow) (a_line) (a_tsize) (t_word) (a_own) (a_oth) (a_fst) (a_snd) (a_plc) res) (F0 m 33 ls [])) (hexit : ∀ t, o = .inr t → ∀ (H : Heap) (locs : List Loc) (ls : Array Slot), Wo D ad (Aw ad 124 s.heap.size) (eC ad adE y m_out t_draft m_tlen a_bytes m_nsize m_drafted a_letters a_nlen t_texts m_here m_fkind m_fplace m_toks t_types a_starts a_tlens m_heard m_qsize m_wayKnown m_way m_qKnown m_lineKnown m_nodes t.2.1 t.2.2.1 t.2.2.2.1 t.2.2.2.2 a_least m_csize a_ctails a_cheads a_cgaps a_leftOut a_qrow a_line a_tsize t_word a_own a_oth a_fst a_snd a_plc) s.heap H locs → lv_has ls 4 [(0, .ref (ad 12)), (1, .int u1), (2, .int u2), (3, .int t.1)] → W p l e rm_X1_gather s m args below meth c H locs 0 0 (QM_X1_gather below args s D ad y adE (m_out) (t_draft) (m_tlen) (a_bytes) (m_nsize) (m_drafted) (a_letters) (a_nlen) (t_texts) (m_here) (m_fkind) (m_fplace) (m_toks) (t_types) (a_starts) (a_tlens) (m_heard) (m_qsize) (m_wayKnown) (m_way) (m_qKnown) (m_lineKnown) (a_least) (m_csize) (a_ctails) (a_cheads) (a_cgaps) (a_leftOut) (a_qrow) (a_line) (a_tsize) (t_word) (a_own) (a_oth) (a_fst) (a_snd) (a_plc) res) (F0 m 86 ls [])) : W p l e rm_X1_gather s m args below meth c H locs 0 0 (QM_X1_gather below args s D ad y adE (m_out) (t_draft) (m_tlen) (a_bytes) (m_nsize) (m_drafted) (a_letters) (a_nlen) (t_texts) (m_here) (m_fkind) (m_fplace) (m_toks) (t_types) (a_starts) (a_tlens) (m_heard) (m_qsize) (m_wayKnown) (m_way) (m_qKnown) (m_lineKnown) (a_least) (m_csize) (a_ctails) (a_cheads) (a_cgaps) (a_leftOut) (a_qrow) (a_line) (a_tsize) (t_word) (a_own) (a_oth) (a_fst) (a_snd) (a_plc) res) (F0 m 33 ls []) := by
  obtain ⟨hx, hb, hr, hml, hown, hts, hlocks, hK, hst⟩ := id C0
  have i_X1 : ∀ w ∈ u_ws RX1 TX1 13, w ∈ wsX1_gather := by decide +kernel
  have L_58 := hts (.fieldLink RX1 58 "CaseOrder$Hearing" "texts" "[LCaseOrder$Text;") (by decide +kernel)
  have i_X8 : ∀ w ∈ u_ws RX8 TX8 2, w ∈ wsX1_gather := by decide +kernel
  have L_90 := hts (.fieldLink RX1 90 "CaseOrder$Text" "size" "I") (by decide +kernel)
  have L_27 := hts (.fieldLink RX1 27 "CaseOrder$Hearing" "leftOut" "[Z") (by decide +kernel)
  have L_96 := hts (.fieldLink RX1 96 "CaseOrder$Text" "row" "[LCaseOrder$Saying;") (by decide +kernel)
  have L_12 := hts (.fieldLink RX1 12 "CaseOrder$Hearing" "net" "LCaseOrder$Net;") (by decide +kernel)
  have i_X4 : ∀ w ∈ u_ws RX4 TX4 3, w ∈ wsX1_gather := by decide +kernel
  have L_100 := hts (.fieldLink RX1 100 "CaseOrder$Net" "links" "LCaseOrder$Links;") (by decide +kernel)
  unfold f_X1_gather_l33 at hf
  refine lv_iload_n hx hb dX1_gather_33 rfl (lv_at hl 3 rfl) ?_
  refine lv_aload_n hx hb dX1_gather_34 rfl (lv_at hl 0 rfl) ?_
  refine g_get hx hb hts i_X1 hown hK hw 12 eC_c12 rfl 0 (by decide) L_58 (fun _ h => h) rfl dX1_gather_35 ?_
  refine lv_iload_n hx hb dX1_gather_38 rfl (lv_at hl 2 rfl) ?_
  obtain ⟨g15, hf⟩ := gIn_some hf
  refine g_aald hx hb hK hw 6 4 eC_c6 rfl g15 dX1_gather_39 rfl ?_
  obtain ⟨g16, hf⟩ := gN_some hf
  refine g_get hx hb hts i_X8 hown hK hw (26 + (t_texts (Int32.toNatClampNeg u2))) (eC_T g16) rfl 1 (by decide) L_90 (fun _ h => h) rfl dX1_gather_40 ?_
  refine lv_icmp_ge (tgt := 86) hx hb dX1_gather_43 (by decide) (fun c17 => ?_) (fun c17 => ?_)
  · have hf := it_p c17 hf
    exact hexit _ (so hf).symm _ _ _ hw (lv_sub hl [0, 1, 2, 3] rfl)
  · have hf := it_n c17 hf
    refine lv_aload_n hx hb dX1_gather_46 rfl (lv_at hl 0 rfl) ?_
    refine g_get hx hb hts i_X1 hown hK hw 12 eC_c12 rfl 4 (by decide) L_27 (fun _ h => h) rfl dX1_gather_47 ?_
    refine lv_iload_n hx hb dX1_gather_50 rfl (lv_at hl 2 rfl) ?_
    refine lv_iload_n hx hb dX1_gather_51 rfl (lv_at hl 3 rfl) ?_
    obtain ⟨q18, hq18, hf⟩ := bd hf
    refine g_Si (As := [.int u2, .int sg.1]) (rest := [.ref (ad 23)]) ⟨hx, hb, hml, hown, hts⟩ (k_X1_slot hq18) (va_cwS 2 hts gX1_gather_X1_slot rfl rfl rfl (by decide +kernel) ⟨Nat.le_of_ble_eq_true rfl, Nat.le_of_ble_eq_true rfl⟩) STC_ok hst hK hw (eC_len.trans eC_len.symm) rfl hl.1 rfl (Nat.le_of_ble_eq_true rfl) dX1_gather_52 ⟨Nat.zero_le _, Nat.zero_le _⟩ (fun H locs hw => ?_)
    obtain ⟨g19, hf⟩ := gIn_some hf
    refine g_zald hx hb hK hw 23 2 eC_c23 rfl g19 dX1_gather_55 ?_
    refine lv_if_ne (tgt := 80) hx hb dX1_gather_56 (by decide) (fun c20 => ?_) (fun c20 => ?_)
    · have hf := it_n c20 hf
      refine lv_iinc (v := sg.1 + 1) (lv' := [(3, .int (sg.1 + 1)), (0, .ref (ad 12)), (1, .int u1), (2, .int u2)]) hx hb dX1_gather_80 hl (k := 3) rfl rfl (by decide) rfl (fun ls hl => ?_)
      refine lv_goto (tgt := 33) hx hb dX1_gather_83 (by decide) ?_
      exact hcont _ (so hf).symm _ _ _ hw (lv_sub hl [1, 2, 3, 0] rfl)
    · have hf := it_p c20 hf
      refine lv_aload_n hx hb dX1_gather_59 rfl (lv_at hl 0 rfl) ?_
      refine g_get hx hb hts i_X1 hown hK hw 12 eC_c12 rfl 0 (by decide) L_58 (fun _ h => h) rfl dX1_gather_60 ?_
      refine lv_iload_n hx hb dX1_gather_63 rfl (lv_at hl 2 rfl) ?_
      obtain ⟨g21, hf⟩ := gIn_some hf
      refine g_aald hx hb hK hw 6 4 eC_c6 rfl g21 dX1_gather_64 rfl ?_
      obtain ⟨g22, hf⟩ := gN_some hf
      refine g_get hx hb hts i_X8 hown hK hw (26 + (t_texts (Int32.toNatClampNeg u2))) (eC_T g22) rfl 0 (by decide) L_96 (fun _ h => h) rfl dX1_gather_65 ?_
      refine lv_iload_n hx hb dX1_gather_68 rfl (lv_at hl 3 rfl) ?_
      obtain ⟨g23, hf⟩ := gIn_some hf
      refine g_aald hx hb hK hw (33 + (t_texts (Int32.toNatClampNeg u2))) 5 (eC_W g22) rfl g23 dX1_gather_69 rfl ?_
      refine lv_aload_n hx hb dX1_gather_70 rfl (lv_at hl 0 rfl) ?_
      refine g_get hx hb hts i_X1 hown hK hw 12 eC_c12 rfl 2 (by decide) L_12 (fun _ h => h) rfl dX1_gather_71 ?_
      refine g_get hx hb hts i_X4 hown hK hw 13 eC_c13 rfl 0 (by decide) L_100 (fun _ h => h) rfl dX1_gather_74 ?_
      obtain ⟨g24, hf⟩ := gN_some hf
      obtain ⟨q25, hq25, hf⟩ := bd hf
      refine g_Vv (As := [.ref (ad 14)]) (rest := []) ⟨hx, hb, hml, hown, hts⟩ (k_X6_putInto14 hq25) (cwV 1 hts gX1_gather_X6_putInto rfl rfl rfl (by decide +kernel) ⟨Nat.le_of_ble_eq_true rfl, Nat.le_of_ble_eq_true rfl⟩) STC_ok hst hK hw (eC_len.trans eC_len.symm) (eC_S g24) rfl rfl hl.1 rfl (Nat.le_of_ble_eq_true rfl) dX1_gather_77 ⟨Nat.zero_le _, Nat.zero_le _⟩ (fun H locs hw => ?_)
      have hw : Wo D ad (Aw ad 124 s.heap.size) (eC ad adE y m_out t_draft m_tlen a_bytes m_nsize m_drafted a_letters a_nlen t_texts m_here m_fkind m_fplace m_toks t_types a_starts a_tlens m_heard m_qsize m_wayKnown m_way m_qKnown m_lineKnown m_nodes q25.1 q25.2.1 q25.2.2.1 q25.2.2.2 a_least m_csize a_ctails a_cheads a_cgaps a_leftOut a_qrow a_line a_tsize t_word a_own a_oth a_fst a_snd a_plc) s.heap H locs := hw
      refine lv_iinc (v := sg.1 + 1) (lv' := [(3, .int (sg.1 + 1)), (0, .ref (ad 12)), (1, .int u1), (2, .int u2)]) hx hb dX1_gather_80 hl (k := 3) rfl rfl (by decide) rfl (fun ls hl => ?_)
      refine lv_goto (tgt := 33) hx hb dX1_gather_83 (by decide) ?_
      exact hcont _ (so hf).symm _ _ _ hw (lv_sub hl [1, 2, 3, 0] rfl)
set_option maxHeartbeats 4000000 in
theorem kl_X1_gather_33 {p : Program} {l : Launch} {e : Env} {s : State} {m : MethodId} {args : Array Value} {below : List Frame} {meth : Method} {c : Code} {D : va_G} {ad : Nat → Nat} {y : Nat → ClassId} {adE adK adV : Nat → Nat} {tkA swA : Nat} (C0 : CXT wsX1_gather cX1_gather RX1 4 none D (tyL y) (STC ad adE adK adV tkA swA) p s m args meth c) {m_out : Int32} {t_draft : Nat} {m_tlen : Int32} {a_bytes : Nat → Int32} {m_nsize : Int32} {m_drafted : Int32} {a_letters : Nat → Int32} {a_nlen : Nat → Int32} {t_texts : Nat → Nat} {m_here : Int32} {m_fkind : Int32} {m_fplace : Int32} {m_toks : Int32} {t_types : Nat → Nat} {a_starts : Nat → Int32} {a_tlens : Nat → Int32} {m_heard : Int32} {m_qsize : Int32} {m_wayKnown : Int32} {m_way : Int32} {m_qKnown : Int32} {m_lineKnown : Int32} {m_nodes : Int32} {a_least : Nat → Int32} {m_csize : Int32} {a_ctails : Nat → Int32} {a_cheads : Nat → Int32} {a_cgaps : Nat → Int32} {a_leftOut : Nat → Int32} {a_qrow : Nat → Int32} {a_line : Nat → Int32} {a_tsize : Nat → Int32} {t_word : Nat → Nat} {a_own : Nat → Int32} {a_oth : Nat → Int32} {a_fst : Nat → Int32} {a_snd : Nat → Int32} {a_plc : Nat → Int32} {u1 : Int32} {u2 : Int32} {res : Int32 × Int32 × (Nat → Int32) × (Nat → Int32) × (Nat → Int32)} : ∀ (n : Nat) (sg : Int32 × Int32 × (Nat → Int32) × (Nat → Int32) × (Nat → Int32)) (q : Int32 × Int32 × (Nat → Int32) × (Nat → Int32) × (Nat → Int32)), lp (f_X1_gather_l33 m_nsize t_texts m_nodes a_leftOut a_tsize t_word a_own a_oth a_fst a_snd u1 u2) n sg = some q → ∀ (H : Heap) (locs : List Loc) (ls : Array Slot), Wo D ad (Aw ad 124 s.heap.size) (eC ad adE y m_out t_draft m_tlen a_bytes m_nsize m_drafted a_letters a_nlen t_texts m_here m_fkind m_fplace m_toks t_types a_starts a_tlens m_heard m_qsize m_wayKnown m_way m_qKnown m_lineKnown m_nodes sg.2.1 sg.2.2.1 sg.2.2.2.1 sg.2.2.2.2 a_least m_csize a_ctails a_cheads a_cgaps a_leftOut a_qrow a_line a_tsize t_word a_own a_oth a_fst a_snd a_plc) s.heap H locs → lv_has ls 4 [(0, .ref (ad 12)), (1, .int u1), (2, .int u2), (3, .int sg.1)] → (∀ (H : Heap) (locs : List Loc) (ls : Array Slot), Wo D ad (Aw ad 124 s.heap.size) (eC ad adE y m_out t_draft m_tlen a_bytes m_nsize m_drafted a_letters a_nlen t_texts m_here m_fkind m_fplace m_toks t_types a_starts a_tlens m_heard m_qsize m_wayKnown m_way m_qKnown m_lineKnown m_nodes q.2.1 q.2.2.1 q.2.2.2.1 q.2.2.2.2 a_least m_csize a_ctails a_cheads a_cgaps a_leftOut a_qrow a_line a_tsize t_word a_own a_oth a_fst a_snd a_plc) s.heap H locs → lv_has ls 4 [(0, .ref (ad 12)), (1, .int u1), (2, .int u2), (3, .int q.1)] → W p l e rm_X1_gather s m args below meth c H locs 0 0 (QM_X1_gather below args s D ad y adE (m_out) (t_draft) (m_tlen) (a_bytes) (m_nsize) (m_drafted) (a_letters) (a_nlen) (t_texts) (m_here) (m_fkind) (m_fplace) (m_toks) (t_types) (a_starts) (a_tlens) (m_heard) (m_qsize) (m_wayKnown) (m_way) (m_qKnown) (m_lineKnown) (a_least) (m_csize) (a_ctails) (a_cheads) (a_cgaps) (a_leftOut) (a_qrow) (a_line) (a_tsize) (t_word) (a_own) (a_oth) (a_fst) (a_snd) (a_plc) res) (F0 m 86 ls [])) → W p l e rm_X1_gather s m args below meth c H locs 0 0 (QM_X1_gather below args s D ad y adE (m_out) (t_draft) (m_tlen) (a_bytes) (m_nsize) (m_drafted) (a_letters) (a_nlen) (t_texts) (m_here) (m_fkind) (m_fplace) (m_toks) (t_types) (a_starts) (a_tlens) (m_heard) (m_qsize) (m_wayKnown) (m_way) (m_qKnown) (m_lineKnown) (a_least) (m_csize) (a_ctails) (a_cheads) (a_cgaps) (a_leftOut) (a_qrow) (a_line) (a_tsize) (t_word) (a_own) (a_oth) (a_fst) (a_snd) (a_plc) res) (F0 m 33 ls []) := by
  intro n
  induction n with
  | zero => intro sg q hf; exact absurd hf lp_zero
  | succ n ih =>
    intro sg q hf H locs ls hw hl hexit
    rcases lp_succ hf with ⟨sg2, h1, h2⟩ | h1
    · exact kw_X1_gather_33 C0 h1 hw hl (fun s2 e2 H locs ls hw hl => by cases e2; exact ih _ q h2 H locs ls hw hl hexit) (fun t e2 => by cases e2)
    · exact kw_X1_gather_33 C0 h1 hw hl (fun s2 e2 => by cases e2) (fun t e2 => by cases e2; exact hexit)
set_option maxHeartbeats 4000000 in
set_option maxRecDepth 100000 in
theorem kw_X1_gather_16 {p : Program} {l : Launch} {e : Env} {s : State} {m : MethodId} {args : Array Value} {below : List Frame} {meth : Method} {c : Code} {D : va_G} {ad : Nat → Nat} {y : Nat → ClassId} {adE adK adV : Nat → Nat} {tkA swA : Nat} (C0 : CXT wsX1_gather cX1_gather RX1 4 none D (tyL y) (STC ad adE adK adV tkA swA) p s m args meth c) {m_out : Int32} {t_draft : Nat} {m_tlen : Int32} {a_bytes : Nat → Int32} {m_nsize : Int32} {m_drafted : Int32} {a_letters : Nat → Int32} {a_nlen : Nat → Int32} {t_texts : Nat → Nat} {m_here : Int32} {m_fkind : Int32} {m_fplace : Int32} {m_toks : Int32} {t_types : Nat → Nat} {a_starts : Nat → Int32} {a_tlens : Nat → Int32} {m_heard : Int32} {m_qsize : Int32} {m_wayKnown : Int32} {m_way : Int32} {m_qKnown : Int32} {m_lineKnown : Int32} {m_nodes : Int32} {a_least : Nat → Int32} {m_csize : Int32} {a_ctails : Nat → Int32} {a_cheads : Nat → Int32} {a_cgaps : Nat → Int32} {a_leftOut : Nat → Int32} {a_qrow : Nat → Int32} {a_line : Nat → Int32} {a_tsize : Nat → Int32} {t_word : Nat → Nat} {a_own : Nat → Int32} {a_oth : Nat → Int32} {a_fst : Nat → Int32} {a_snd : Nat → Int32} {a_plc : Nat → Int32} {u1 : Int32} {res : Int32 × Int32 × (Nat → Int32) × (Nat → Int32) × (Nat → Int32)} {sg : Int32 × Int32 × (Nat → Int32) × (Nat → Int32) × (Nat → Int32)} {o : (Int32 × Int32 × (Nat → Int32) × (Nat → Int32) × (Nat → Int32)) ⊕ (Int32 × Int32 × (Nat → Int32) × (Nat → Int32) × (Nat → Int32))} (hf : f_X1_gather_l16 m_nsize t_texts m_nodes a_leftOut a_tsize t_word a_own a_oth a_fst a_snd u1 sg = some o) {H : Heap} {locs : List Loc} {ls : Array Slot} (hw : Wo D ad (Aw ad 124 s.heap.size) (eC ad adE y m_out t_draft m_tlen a_bytes m_nsize m_drafted a_letters a_nlen t_texts m_here m_fkind m_fplace m_toks t_types a_starts a_tlens m_heard m_qsize m_wayKnown m_way m_qKnown m_lineKnown m_nodes sg.2.1 sg.2.2.1 sg.2.2.2.1 sg.2.2.2.2 a_least m_csize a_ctails a_cheads a_cgaps a_leftOut a_qrow a_line a_tsize t_word a_own a_oth a_fst a_snd a_plc) s.heap H locs) (hl : lv_has ls 4 [(0, .ref (ad 12)), (1, .int u1), (2, .int sg.1)]) (hcont : ∀ s2, o = .inl s2 → ∀ (H : Heap) (locs : List Loc) (ls : Array Slot), Wo D ad (Aw ad 124 s.heap.size) (eC ad adE y m_out t_draft m_tlen a_bytes m_nsize m_drafted a_letters a_nlen t_texts m_here m_fkind m_fplace m_toks t_types a_starts a_tlens m_heard m_qsize m_wayKnown m_way m_qKnown m_lineKnown m_nodes s2.2.1 s2.2.2.1 s2.2.2.2.1 s2.2.2.2.2 a_least m_csize a_ctails a_cheads a_cgaps a_leftOut a_qrow a_line a_tsize t_word a_own a_oth a_fst a_snd a_plc) s.heap H locs → lv_has ls 4 [(0, .ref (ad 12)), (1, .int u1), (2, .int s2.1)] → W p l e rm_X1_gather s m args below meth c H locs 0 0 (QM_X1_gather below args s D ad y adE (m_out) (t_draft) (m_tlen) (a_bytes) (m_nsize) (m_drafted) (a_letters) (a_nlen) (t_texts) (m_here) (m_fkind) (m_fplace) (m_toks) (t_types) (a_starts) (a_tlens) (m_heard) (m_qsize) (m_wayKnown) (m_way) (m_qKnown) (m_lineKnown) (a_least) (m_csize) (a_ctails) (a_cheads) (a_cgaps) (a_leftOut) (a_qrow) (a_line) (a_tsize) (t_word) (a_own) (a_oth) (a_fst) (a_snd) (a_plc) res) (F0 m 16 ls [])) (hexit : ∀ t, o = .inr t → ∀ (H : Heap) (locs : List Loc) (ls : Array Slot), Wo D ad (Aw ad 124 s.heap.size) (eC ad adE y m_out t_draft m_tlen a_bytes m_nsize m_drafted a_letters a_nlen t_texts m_here m_fkind m_fplace m_toks t_types a_starts a_tlens m_heard m_qsize m_wayKnown m_way m_qKnown m_lineKnown m_nodes t.2.1 t.2.2.1 t.2.2.2.1 t.2.2.2.2 a_least m_csize a_ctails a_cheads a_cgaps a_leftOut a_qrow a_line a_tsize t_word a_own a_oth a_fst a_snd a_plc) s.heap H locs → lv_has ls 4 [(0, .ref (ad 12)), (1, .int u1), (2, .int t.1)] → W p l e rm_X1_gather s m args below meth c H locs 0 0 (QM_X1_gather below args s D ad y adE (m_out) (t_draft) (m_tlen) (a_bytes) (m_nsize) (m_drafted) (a_letters) (a_nlen) (t_texts) (m_here) (m_fkind) (m_fplace) (m_toks) (t_types) (a_starts) (a_tlens) (m_heard) (m_qsize) (m_wayKnown) (m_way) (m_qKnown) (m_lineKnown) (a_least) (m_csize) (a_ctails) (a_cheads) (a_cgaps) (a_leftOut) (a_qrow) (a_line) (a_tsize) (t_word) (a_own) (a_oth) (a_fst) (a_snd) (a_plc) res) (F0 m 92 ls [])) : W p l e rm_X1_gather s m args below meth c H locs 0 0 (QM_X1_gather below args s D ad y adE (m_out) (t_draft) (m_tlen) (a_bytes) (m_nsize) (m_drafted) (a_letters) (a_nlen) (t_texts) (m_here) (m_fkind) (m_fplace) (m_toks) (t_types) (a_starts) (a_tlens) (m_heard) (m_qsize) (m_wayKnown) (m_way) (m_qKnown) (m_lineKnown) (a_least) (m_csize) (a_ctails) (a_cheads) (a_cgaps) (a_leftOut) (a_qrow) (a_line) (a_tsize) (t_word) (a_own) (a_oth) (a_fst) (a_snd) (a_plc) res) (F0 m 16 ls []) := by
  obtain ⟨hx, hb, hr, hml, hown, hts, hlocks, hK, hst⟩ := id C0
  unfold f_X1_gather_l16 at hf
  refine lv_iload_n hx hb dX1_gather_16 rfl (lv_at hl 2 rfl) ?_
  refine lv_bipush (v := 6) hx hb dX1_gather_17 (by decide) ?_
  refine lv_icmp_ge (tgt := 92) hx hb dX1_gather_19 (by decide) (fun c13 => ?_) (fun c13 => ?_)
  · have hf := it_p c13 hf
    exact hexit _ (so hf).symm _ _ _ hw (lv_sub hl [0, 1, 2] rfl)
  · have hf := it_n c13 hf
    refine lv_iload_n hx hb dX1_gather_22 rfl (lv_at hl 1 rfl) ?_
    refine lv_iload_n hx hb dX1_gather_23 rfl (lv_at hl 2 rfl) ?_
    refine lv_ishr hx hb dX1_gather_24 ?_
    refine lv_iconst (v := 1) hx hb dX1_gather_25 (by decide) ?_
    refine lv_iand hx hb dX1_gather_26 ?_
    refine lv_iconst (v := 1) hx hb dX1_gather_27 (by decide) ?_
    refine lv_icmp_ne (tgt := 86) hx hb dX1_gather_28 (by decide) (fun c14 => ?_) (fun c14 => ?_)
    · have hf := it_n c14 hf
      refine lv_iinc (v := sg.1 + 1) (lv' := [(2, .int (sg.1 + 1)), (0, .ref (ad 12)), (1, .int u1)]) hx hb dX1_gather_86 hl (k := 2) rfl rfl (by decide) rfl (fun ls hl => ?_)
      refine lv_goto (tgt := 16) hx hb dX1_gather_89 (by decide) ?_
      exact hcont _ (so hf).symm _ _ _ hw (lv_sub hl [1, 2, 0] rfl)
    · have hf := it_p c14 hf
      refine lv_iconst (v := 0) hx hb dX1_gather_31 (by decide) ?_
      refine lv_istore_n (lv' := [(3, .int 0), (0, .ref (ad 12)), (1, .int u1), (2, .int sg.1)]) hx hb dX1_gather_32 rfl hl (by decide) rfl (fun ls hl => ?_)
      obtain ⟨q26, hq26, hf⟩ := bd hf
      refine kl_X1_gather_33 C0 gFU _ _ hq26 _ _ _ hw (lv_sub hl [1, 2, 3, 0] rfl) (fun H locs ls hw hl => ?_)
      have hw : Wo D ad (Aw ad 124 s.heap.size) (eC ad adE y m_out t_draft m_tlen a_bytes m_nsize m_drafted a_letters a_nlen t_texts m_here m_fkind m_fplace m_toks t_types a_starts a_tlens m_heard m_qsize m_wayKnown m_way m_qKnown m_lineKnown m_nodes q26.2.1 q26.2.2.1 q26.2.2.2.1 q26.2.2.2.2 a_least m_csize a_ctails a_cheads a_cgaps a_leftOut a_qrow a_line a_tsize t_word a_own a_oth a_fst a_snd a_plc) s.heap H locs := hw
      have hl : lv_has ls 4 [(0, .ref (ad 12)), (1, .int u1), (2, .int sg.1), (3, .int q26.1)] := hl
      refine lv_iinc (v := sg.1 + 1) (lv' := [(2, .int (sg.1 + 1)), (0, .ref (ad 12)), (1, .int u1), (3, .int q26.1)]) hx hb dX1_gather_86 hl (k := 2) rfl rfl (by decide) rfl (fun ls hl => ?_)
      refine lv_goto (tgt := 16) hx hb dX1_gather_89 (by decide) ?_
      exact hcont _ (so hf).symm _ _ _ hw (lv_sub hl [1, 2, 0] rfl)
set_option maxHeartbeats 4000000 in
theorem kl_X1_gather_16 {p : Program} {l : Launch} {e : Env} {s : State} {m : MethodId} {args : Array Value} {below : List Frame} {meth : Method} {c : Code} {D : va_G} {ad : Nat → Nat} {y : Nat → ClassId} {adE adK adV : Nat → Nat} {tkA swA : Nat} (C0 : CXT wsX1_gather cX1_gather RX1 4 none D (tyL y) (STC ad adE adK adV tkA swA) p s m args meth c) {m_out : Int32} {t_draft : Nat} {m_tlen : Int32} {a_bytes : Nat → Int32} {m_nsize : Int32} {m_drafted : Int32} {a_letters : Nat → Int32} {a_nlen : Nat → Int32} {t_texts : Nat → Nat} {m_here : Int32} {m_fkind : Int32} {m_fplace : Int32} {m_toks : Int32} {t_types : Nat → Nat} {a_starts : Nat → Int32} {a_tlens : Nat → Int32} {m_heard : Int32} {m_qsize : Int32} {m_wayKnown : Int32} {m_way : Int32} {m_qKnown : Int32} {m_lineKnown : Int32} {m_nodes : Int32} {a_least : Nat → Int32} {m_csize : Int32} {a_ctails : Nat → Int32} {a_cheads : Nat → Int32} {a_cgaps : Nat → Int32} {a_leftOut : Nat → Int32} {a_qrow : Nat → Int32} {a_line : Nat → Int32} {a_tsize : Nat → Int32} {t_word : Nat → Nat} {a_own : Nat → Int32} {a_oth : Nat → Int32} {a_fst : Nat → Int32} {a_snd : Nat → Int32} {a_plc : Nat → Int32} {u1 : Int32} {res : Int32 × Int32 × (Nat → Int32) × (Nat → Int32) × (Nat → Int32)} : ∀ (n : Nat) (sg : Int32 × Int32 × (Nat → Int32) × (Nat → Int32) × (Nat → Int32)) (q : Int32 × Int32 × (Nat → Int32) × (Nat → Int32) × (Nat → Int32)), lp (f_X1_gather_l16 m_nsize t_texts m_nodes a_leftOut a_tsize t_word a_own a_oth a_fst a_snd u1) n sg = some q → ∀ (H : Heap) (locs : List Loc) (ls : Array Slot), Wo D ad (Aw ad 124 s.heap.size) (eC ad adE y m_out t_draft m_tlen a_bytes m_nsize m_drafted a_letters a_nlen t_texts m_here m_fkind m_fplace m_toks t_types a_starts a_tlens m_heard m_qsize m_wayKnown m_way m_qKnown m_lineKnown m_nodes sg.2.1 sg.2.2.1 sg.2.2.2.1 sg.2.2.2.2 a_least m_csize a_ctails a_cheads a_cgaps a_leftOut a_qrow a_line a_tsize t_word a_own a_oth a_fst a_snd a_plc) s.heap H locs → lv_has ls 4 [(0, .ref (ad 12)), (1, .int u1), (2, .int sg.1)] → (∀ (H : Heap) (locs : List Loc) (ls : Array Slot), Wo D ad (Aw ad 124 s.heap.size) (eC ad adE y m_out t_draft m_tlen a_bytes m_nsize m_drafted a_letters a_nlen t_texts m_here m_fkind m_fplace m_toks t_types a_starts a_tlens m_heard m_qsize m_wayKnown m_way m_qKnown m_lineKnown m_nodes q.2.1 q.2.2.1 q.2.2.2.1 q.2.2.2.2 a_least m_csize a_ctails a_cheads a_cgaps a_leftOut a_qrow a_line a_tsize t_word a_own a_oth a_fst a_snd a_plc) s.heap H locs → lv_has ls 4 [(0, .ref (ad 12)), (1, .int u1), (2, .int q.1)] → W p l e rm_X1_gather s m args below meth c H locs 0 0 (QM_X1_gather below args s D ad y adE (m_out) (t_draft) (m_tlen) (a_bytes) (m_nsize) (m_drafted) (a_letters) (a_nlen) (t_texts) (m_here) (m_fkind) (m_fplace) (m_toks) (t_types) (a_starts) (a_tlens) (m_heard) (m_qsize) (m_wayKnown) (m_way) (m_qKnown) (m_lineKnown) (a_least) (m_csize) (a_ctails) (a_cheads) (a_cgaps) (a_leftOut) (a_qrow) (a_line) (a_tsize) (t_word) (a_own) (a_oth) (a_fst) (a_snd) (a_plc) res) (F0 m 92 ls [])) → W p l e rm_X1_gather s m args below meth c H locs 0 0 (QM_X1_gather below args s D ad y adE (m_out) (t_draft) (m_tlen) (a_bytes) (m_nsize) (m_drafted) (a_letters) (a_nlen) (t_texts) (m_here) (m_fkind) (m_fplace) (m_toks) (t_types) (a_starts) (a_tlens) (m_heard) (m_qsize) (m_wayKnown) (m_way) (m_qKnown) (m_lineKnown) (a_least) (m_csize) (a_ctails) (a_cheads) (a_cgaps) (a_leftOut) (a_qrow) (a_line) (a_tsize) (t_word) (a_own) (a_oth) (a_fst) (a_snd) (a_plc) res) (F0 m 16 ls []) := by
  intro n
  induction n with
  | zero => intro sg q hf; exact absurd hf lp_zero
  | succ n ih =>
    intro sg q hf H locs ls hw hl hexit
    rcases lp_succ hf with ⟨sg2, h1, h2⟩ | h1
    · exact kw_X1_gather_16 C0 h1 hw hl (fun s2 e2 H locs ls hw hl => by cases e2; exact ih _ q h2 H locs ls hw hl hexit) (fun t e2 => by cases e2)
    · exact kw_X1_gather_16 C0 h1 hw hl (fun s2 e2 => by cases e2) (fun t e2 => by cases e2; exact hexit)
set_option maxHeartbeats 4000000 in
set_option maxRecDepth 100000 in
theorem ke_X1_gather {p : Program} {l : Launch} {e : Env} {s : State} {m : MethodId} {args : Array Value} {below : List Frame} {meth : Method} {c : Code} {D : va_G} {ad : Nat → Nat} {y : Nat → ClassId} {adE adK adV : Nat → Nat} {tkA swA : Nat} (C0 : CXT wsX1_gather cX1_gather RX1 4 none D (tyL y) (STC ad adE adK adV tkA swA) p s m args meth c) {m_out : Int32} {t_draft : Nat} {m_tlen : Int32} {a_bytes : Nat → Int32} {m_nsize : Int32} {m_drafted : Int32} {a_letters : Nat → Int32} {a_nlen : Nat → Int32} {t_texts : Nat → Nat} {m_here : Int32} {m_fkind : Int32} {m_fplace : Int32} {m_toks : Int32} {t_types : Nat → Nat} {a_starts : Nat → Int32} {a_tlens : Nat → Int32} {m_heard : Int32} {m_qsize : Int32} {m_wayKnown : Int32} {m_way : Int32} {m_qKnown : Int32} {m_lineKnown : Int32} {m_nodes : Int32} {m_lsize : Int32} {a_tails : Nat → Int32} {a_heads : Nat → Int32} {a_gaps : Nat → Int32} {a_least : Nat → Int32} {m_csize : Int32} {a_ctails : Nat → Int32} {a_cheads : Nat → Int32} {a_cgaps : Nat → Int32} {a_leftOut : Nat → Int32} {a_qrow : Nat → Int32} {a_line : Nat → Int32} {a_tsize : Nat → Int32} {t_word : Nat → Nat} {a_own : Nat → Int32} {a_oth : Nat → Int32} {a_fst : Nat → Int32} {a_snd : Nat → Int32} {a_plc : Nat → Int32} {p1 : Int32} {res : Int32 × Int32 × (Nat → Int32) × (Nat → Int32) × (Nat → Int32)} (hf : f_X1_gather m_nsize t_texts m_nodes m_lsize a_tails a_heads a_gaps a_leftOut a_tsize t_word a_own a_oth a_fst a_snd p1 = some res) {H : Heap} {locs : List Loc} {ls : Array Slot} (hw : Wo D ad (Aw ad 124 s.heap.size) (eC ad adE y m_out t_draft m_tlen a_bytes m_nsize m_drafted a_letters a_nlen t_texts m_here m_fkind m_fplace m_toks t_types a_starts a_tlens m_heard m_qsize m_wayKnown m_way m_qKnown m_lineKnown m_nodes m_lsize a_tails a_heads a_gaps a_least m_csize a_ctails a_cheads a_cgaps a_leftOut a_qrow a_line a_tsize t_word a_own a_oth a_fst a_snd a_plc) s.heap H locs) (hl : lv_has ls 4 [(0, .ref (ad 12)), (1, .int p1)]) : W p l e rm_X1_gather s m args below meth c H locs 0 0 (QM_X1_gather below args s D ad y adE (m_out) (t_draft) (m_tlen) (a_bytes) (m_nsize) (m_drafted) (a_letters) (a_nlen) (t_texts) (m_here) (m_fkind) (m_fplace) (m_toks) (t_types) (a_starts) (a_tlens) (m_heard) (m_qsize) (m_wayKnown) (m_way) (m_qKnown) (m_lineKnown) (a_least) (m_csize) (a_ctails) (a_cheads) (a_cgaps) (a_leftOut) (a_qrow) (a_line) (a_tsize) (t_word) (a_own) (a_oth) (a_fst) (a_snd) (a_plc) res) (F0 m 0 ls []) := by
  obtain ⟨hx, hb, hr, hml, hown, hts, hlocks, hK, hst⟩ := id C0
  have i_X1 : ∀ w ∈ u_ws RX1 TX1 13, w ∈ wsX1_gather := by decide +kernel
  have L_12 := hts (.fieldLink RX1 12 "CaseOrder$Hearing" "net" "LCaseOrder$Net;") (by decide +kernel)
  have L_62 := hts (.fieldLink RX1 62 "CaseOrder$Hearing" "names" "LCaseOrder$Names;") (by decide +kernel)
  have i_X3 : ∀ w ∈ u_ws RX3 TX3 4, w ∈ wsX1_gather := by decide +kernel
  have L_82 := hts (.fieldLink RX1 82 "CaseOrder$Names" "size" "I") (by decide +kernel)
  unfold f_X1_gather at hf
  refine lv_aload_n hx hb dX1_gather_0 rfl (lv_at hl 0 rfl) ?_
  refine g_get hx hb hts i_X1 hown hK hw 12 eC_c12 rfl 2 (by decide) L_12 (fun _ h => h) rfl dX1_gather_1 ?_
  refine lv_aload_n hx hb dX1_gather_4 rfl (lv_at hl 0 rfl) ?_
  refine g_get hx hb hts i_X1 hown hK hw 12 eC_c12 rfl 1 (by decide) L_62 (fun _ h => h) rfl dX1_gather_5 ?_
  refine g_get hx hb hts i_X3 hown hK hw 3 eC_c3 rfl 2 (by decide) L_82 (fun _ h => h) rfl dX1_gather_8 ?_
  obtain ⟨q12, hq12, hf⟩ := bd hf
  refine g_Vv (As := [.int m_nsize]) (rest := []) ⟨hx, hb, hml, hown, hts⟩ (k_X4_open hq12) (cwV 1 hts gX1_gather_X4_open rfl rfl rfl (by decide +kernel) ⟨Nat.le_of_ble_eq_true rfl, Nat.le_of_ble_eq_true rfl⟩) STC_ok hst hK hw (eC_len.trans eC_len.symm) eC_c13 rfl rfl hl.1 rfl (Nat.le_of_ble_eq_true rfl) dX1_gather_11 ⟨Nat.zero_le _, Nat.zero_le _⟩ (fun H locs hw => ?_)
  have hw : Wo D ad (Aw ad 124 s.heap.size) (eC ad adE y m_out t_draft m_tlen a_bytes m_nsize m_drafted a_letters a_nlen t_texts m_here m_fkind m_fplace m_toks t_types a_starts a_tlens m_heard m_qsize m_wayKnown m_way m_qKnown m_lineKnown q12.1 q12.2.1 q12.2.2.1 q12.2.2.2.1 q12.2.2.2.2 a_least m_csize a_ctails a_cheads a_cgaps a_leftOut a_qrow a_line a_tsize t_word a_own a_oth a_fst a_snd a_plc) s.heap H locs := hw
  refine lv_iconst (v := 0) hx hb dX1_gather_14 (by decide) ?_
  refine lv_istore_n (lv' := [(2, .int 0), (0, .ref (ad 12)), (1, .int p1)]) hx hb dX1_gather_15 rfl hl (by decide) rfl (fun ls hl => ?_)
  obtain ⟨q27, hq27, hf⟩ := bd hf
  refine kl_X1_gather_16 C0 gFU _ _ hq27 _ _ _ hw (lv_sub hl [1, 2, 0] rfl) (fun H locs ls hw hl => ?_)
  have hw : Wo D ad (Aw ad 124 s.heap.size) (eC ad adE y m_out t_draft m_tlen a_bytes m_nsize m_drafted a_letters a_nlen t_texts m_here m_fkind m_fplace m_toks t_types a_starts a_tlens m_heard m_qsize m_wayKnown m_way m_qKnown m_lineKnown q12.1 q27.2.1 q27.2.2.1 q27.2.2.2.1 q27.2.2.2.2 a_least m_csize a_ctails a_cheads a_cgaps a_leftOut a_qrow a_line a_tsize t_word a_own a_oth a_fst a_snd a_plc) s.heap H locs := hw
  have hl : lv_has ls 4 [(0, .ref (ad 12)), (1, .int p1), (2, .int q27.1)] := hl
  obtain rfl := so hf
  exact W.vret hx hb hr (fun t ht _ => g_endv hw t ht) hw.2.2.2.2 dX1_gather_92
set_option maxHeartbeats 4000000 in
theorem k_X1_gather {l : Launch} {D : va_G} {ad : Nat → Nat} {y : Nat → ClassId} {adE adK adV : Nat → Nat} {tkA swA : Nat} {m_out : Int32} {t_draft : Nat} {m_tlen : Int32} {a_bytes : Nat → Int32} {m_nsize : Int32} {m_drafted : Int32} {a_letters : Nat → Int32} {a_nlen : Nat → Int32} {t_texts : Nat → Nat} {m_here : Int32} {m_fkind : Int32} {m_fplace : Int32} {m_toks : Int32} {t_types : Nat → Nat} {a_starts : Nat → Int32} {a_tlens : Nat → Int32} {m_heard : Int32} {m_qsize : Int32} {m_wayKnown : Int32} {m_way : Int32} {m_qKnown : Int32} {m_lineKnown : Int32} {m_nodes : Int32} {m_lsize : Int32} {a_tails : Nat → Int32} {a_heads : Nat → Int32} {a_gaps : Nat → Int32} {a_least : Nat → Int32} {m_csize : Int32} {a_ctails : Nat → Int32} {a_cheads : Nat → Int32} {a_cgaps : Nat → Int32} {a_leftOut : Nat → Int32} {a_qrow : Nat → Int32} {a_line : Nat → Int32} {a_tsize : Nat → Int32} {t_word : Nat → Nat} {a_own : Nat → Int32} {a_oth : Nat → Int32} {a_fst : Nat → Int32} {a_snd : Nat → Int32} {a_plc : Nat → Int32} {p1 : Int32} {res : Int32 × Int32 × (Nat → Int32) × (Nat → Int32) × (Nat → Int32)} (hf : f_X1_gather m_nsize t_texts m_nodes m_lsize a_tails a_heads a_gaps a_leftOut a_tsize t_word a_own a_oth a_fst a_snd p1 = some res) : CTv l yX1_gather wsX1_gather rm_X1_gather D ad 124 (tyL y) (STC ad adE adK adV tkA swA) (eC ad adE y m_out t_draft m_tlen a_bytes m_nsize m_drafted a_letters a_nlen t_texts m_here m_fkind m_fplace m_toks t_types a_starts a_tlens m_heard m_qsize m_wayKnown m_way m_qKnown m_lineKnown m_nodes m_lsize a_tails a_heads a_gaps a_least m_csize a_ctails a_cheads a_cgaps a_leftOut a_qrow a_line a_tsize t_word a_own a_oth a_fst a_snd a_plc) (eC ad adE y m_out t_draft m_tlen a_bytes m_nsize m_drafted a_letters a_nlen t_texts m_here m_fkind m_fplace m_toks t_types a_starts a_tlens m_heard m_qsize m_wayKnown m_way m_qKnown m_lineKnown res.1 res.2.1 res.2.2.1 res.2.2.2.1 res.2.2.2.2 a_least m_csize a_ctails a_cheads a_cgaps a_leftOut a_qrow a_line a_tsize t_word a_own a_oth a_fst a_snd a_plc) [.ref (ad 12), .int p1] := by
  intro sz
  refine Met.ofW (cc := cX1_gather) (maxL := 4) (ret := none) (by decide) rfl ?_
  intro p e s m args below meth c s₁ B hml hv
  obtain ⟨rfl, hsz, hP, hK, hD0, hst⟩ := hv
  subst hsz
  have C0 : CXT wsX1_gather cX1_gather RX1 4 none D (tyL y) (STC ad adE adK adV tkA swA) p s m ([.ref (ad 12), .int p1] : List Value).toArray meth c := ⟨B.exec, B.bytes, B.returns, hml, findClass_of_methodNamed B.named, atoms_spec (ws := wsX1_gather) B.pre, B.notSynchronized, hK, hst⟩
  have hw := g_start (n := 124) eC_len hP hD0
  have hl := lv_entry ([.ref (ad 12), .int p1]) (n := 4) (Nat.le_of_ble_eq_true rfl)
  rw [lg_entry_eq]
  generalize (lg_sl ([.ref (ad 12), .int p1]) ++ List.replicate (4 - (lg_sl ([.ref (ad 12), .int p1])).length) Slot.unset).toArray = ls at hl ⊢
  have hl : lv_has ls 4 [(0, .ref (ad 12)), (1, .int p1)] := hl
  exact ke_X1_gather C0 hf hw hl
