abbrev rm_X11_sayings : Room := { frames := 6, cells := 1, slots := 6, locals := 82 }
abbrev rx_X11_sayings (ad : Nat → Nat) (y : Nat → ClassId) (adE : Nat → Nat) (m_out : Int32) (t_draft : Nat) (m_tlen : Int32) (a_bytes : Nat → Int32) (m_nsize : Int32) (m_drafted : Int32) (a_letters : Nat → Int32) (a_nlen : Nat → Int32) (t_texts : Nat → Nat) (m_here : Int32) (m_fkind : Int32) (m_fplace : Int32) (m_toks : Int32) (t_types : Nat → Nat) (a_starts : Nat → Int32) (a_tlens : Nat → Int32) (m_heard : Int32) (m_qsize : Int32) (m_wayKnown : Int32) (m_way : Int32) (m_qKnown : Int32) (m_lineKnown : Int32) (m_nodes : Int32) (m_lsize : Int32) (a_tails : Nat → Int32) (a_heads : Nat → Int32) (a_gaps : Nat → Int32) (a_least : Nat → Int32) (m_csize : Int32) (a_ctails : Nat → Int32) (a_cheads : Nat → Int32) (a_cgaps : Nat → Int32) (a_leftOut : Nat → Int32) (a_qrow : Nat → Int32) (a_line : Nat → Int32) (a_tsize : Nat → Int32) (t_word : Nat → Nat) (a_own : Nat → Int32) (a_oth : Nat → Int32) (a_fst : Nat → Int32) (a_snd : Nat → Int32) (a_plc : Nat → Int32) (res : (Int32) ⊕ (Nat)) : ResX := match res with
  | .inl r => .inl (r, (eC ad adE y m_out t_draft m_tlen a_bytes m_nsize m_drafted a_letters a_nlen t_texts m_here m_fkind m_fplace m_toks t_types a_starts a_tlens m_heard m_qsize m_wayKnown m_way m_qKnown m_lineKnown m_nodes m_lsize a_tails a_heads a_gaps a_least m_csize a_ctails a_cheads a_cgaps a_leftOut a_qrow a_line a_tsize t_word a_own a_oth a_fst a_snd a_plc))
  | .inr r => .inr (exN r, (eC ad adE y m_out t_draft m_tlen a_bytes m_nsize m_drafted a_letters a_nlen t_texts m_here m_fkind m_fplace m_toks t_types a_starts a_tlens m_heard m_qsize m_wayKnown m_way m_qKnown m_lineKnown m_nodes m_lsize a_tails a_heads a_gaps a_least m_csize a_ctails a_cheads a_cgaps a_leftOut a_qrow a_line a_tsize t_word a_own a_oth a_fst a_snd a_plc))
abbrev QM_X11_sayings (below : List Frame) (args : Array Value) (s : State) (D : va_G) (ad : Nat → Nat) (y : Nat → ClassId) (adE : Nat → Nat) (m_out : Int32) (t_draft : Nat) (m_tlen : Int32) (a_bytes : Nat → Int32) (m_nsize : Int32) (m_drafted : Int32) (a_letters : Nat → Int32) (a_nlen : Nat → Int32) (t_texts : Nat → Nat) (m_here : Int32) (m_fkind : Int32) (m_fplace : Int32) (m_toks : Int32) (t_types : Nat → Nat) (a_starts : Nat → Int32) (a_tlens : Nat → Int32) (m_heard : Int32) (m_qsize : Int32) (m_wayKnown : Int32) (m_way : Int32) (m_qKnown : Int32) (m_lineKnown : Int32) (m_nodes : Int32) (m_lsize : Int32) (a_tails : Nat → Int32) (a_heads : Nat → Int32) (a_gaps : Nat → Int32) (a_least : Nat → Int32) (m_csize : Int32) (a_ctails : Nat → Int32) (a_cheads : Nat → Int32) (a_cgaps : Nat → Int32) (a_leftOut : Nat → Int32) (a_qrow : Nat → Int32) (a_line : Nat → Int32) (a_tsize : Nat → Int32) (t_word : Nat → Nat) (a_own : Nat → Int32) (a_oth : Nat → Int32) (a_fst : Nat → Int32) (a_snd : Nat → Int32) (a_plc : Nat → Int32) (res : (Int32) ⊕ (Nat)) : State → Prop := vx_MQ below (QcX D ad 124 s.heap.size (rx_X11_sayings ad y adE m_out t_draft m_tlen a_bytes m_nsize m_drafted a_letters a_nlen t_texts m_here m_fkind m_fplace m_toks t_types a_starts a_tlens m_heard m_qsize m_wayKnown m_way m_qKnown m_lineKnown m_nodes m_lsize a_tails a_heads a_gaps a_least m_csize a_ctails a_cheads a_cgaps a_leftOut a_qrow a_line a_tsize t_word a_own a_oth a_fst a_snd a_plc res)) (XcX D ad 124 s.heap.size (rx_X11_sayings ad y adE m_out t_draft m_tlen a_bytes m_nsize m_drafted a_letters a_nlen t_texts m_here m_fkind m_fplace m_toks t_types a_starts a_tlens m_heard m_qsize m_wayKnown m_way m_qKnown m_lineKnown m_nodes m_lsize a_tails a_heads a_gaps a_least m_csize a_ctails a_cheads a_cgaps a_leftOut a_qrow a_line a_tsize t_word a_own a_oth a_fst a_snd a_plc res)) args s 1 6 (Aw ad 124 s.heap.size)
set_option maxRecDepth 100000 in
theorem kxX11_sayings_1 : Cond.classLink RX11 67 exI ∈ wsX11_sayings ∧ Cond.initialized exI ∈ wsX11_sayings ∧ ∀ w ∈ (vx_atS RX11 71 exI thN).filter goodWord, w ∈ wsX11_sayings := by decide +kernel
set_option maxHeartbeats 4000000 in
set_option maxRecDepth 100000 in
theorem ke_X11_sayings {p : Program} {l : Launch} {e : Env} {s : State} {m : MethodId} {args : Array Value} {below : List Frame} {meth : Method} {c : Code} {D : va_G} {ad : Nat → Nat} {y : Nat → ClassId} {adE adK adV : Nat → Nat} {tkA swA : Nat} {sa : Nat → Nat} (C0 : CXT wsX11_sayings cX11_sayings RX11 2 (some .int) D (tyL y) (STX ad adE adK adV tkA swA sa) p s m args meth c ∧ (∀ x ∈ c.exceptionTable.toList, False) ∧ l.stackTraces = false) {m_out : Int32} {t_draft : Nat} {m_tlen : Int32} {a_bytes : Nat → Int32} {m_nsize : Int32} {m_drafted : Int32} {a_letters : Nat → Int32} {a_nlen : Nat → Int32} {t_texts : Nat → Nat} {m_here : Int32} {m_fkind : Int32} {m_fplace : Int32} {m_toks : Int32} {t_types : Nat → Nat} {a_starts : Nat → Int32} {a_tlens : Nat → Int32} {m_heard : Int32} {m_qsize : Int32} {m_wayKnown : Int32} {m_way : Int32} {m_qKnown : Int32} {m_lineKnown : Int32} {m_nodes : Int32} {m_lsize : Int32} {a_tails : Nat → Int32} {a_heads : Nat → Int32} {a_gaps : Nat → Int32} {a_least : Nat → Int32} {m_csize : Int32} {a_ctails : Nat → Int32} {a_cheads : Nat → Int32} {a_cgaps : Nat → Int32} {a_leftOut : Nat → Int32} {a_qrow : Nat → Int32} {a_line : Nat → Int32} {a_tsize : Nat → Int32} {t_word : Nat → Nat} {a_own : Nat → Int32} {a_oth : Nat → Int32} {a_fst : Nat → Int32} {a_snd : Nat → Int32} {a_plc : Nat → Int32} {p1 : Int32} {res : (Int32) ⊕ (Nat)} (hf : f_X11_sayings t_texts a_tsize p1 = some res) {H : Heap} {locs : List Loc} {ls : Array Slot} (hw : Wo D ad (Aw ad 124 s.heap.size) (eC ad adE y m_out t_draft m_tlen a_bytes m_nsize m_drafted a_letters a_nlen t_texts m_here m_fkind m_fplace m_toks t_types a_starts a_tlens m_heard m_qsize m_wayKnown m_way m_qKnown m_lineKnown m_nodes m_lsize a_tails a_heads a_gaps a_least m_csize a_ctails a_cheads a_cgaps a_leftOut a_qrow a_line a_tsize t_word a_own a_oth a_fst a_snd a_plc) s.heap H locs) (hl : lv_has ls 2 [(0, .ref (ad 0)), (1, .int p1)]) : W p l e rm_X11_sayings s m args below meth c H locs 0 0 (QM_X11_sayings below args s D ad y adE (m_out) (t_draft) (m_tlen) (a_bytes) (m_nsize) (m_drafted) (a_letters) (a_nlen) (t_texts) (m_here) (m_fkind) (m_fplace) (m_toks) (t_types) (a_starts) (a_tlens) (m_heard) (m_qsize) (m_wayKnown) (m_way) (m_qKnown) (m_lineKnown) (m_nodes) (m_lsize) (a_tails) (a_heads) (a_gaps) (a_least) (m_csize) (a_ctails) (a_cheads) (a_cgaps) (a_leftOut) (a_qrow) (a_line) (a_tsize) (t_word) (a_own) (a_oth) (a_fst) (a_snd) (a_plc) res) (F0 m 0 ls []) := by
  obtain ⟨⟨hx, hb, hr, hml, hown, hts, hlocks, hK, hsx⟩, hno, htr⟩ := id C0
  have hst := hsx.1
  have hk_1 := kxX11_sayings_1
  have i_X11 : ∀ w ∈ u_ws RX11 TX11 7, w ∈ wsX11_sayings := by decide +kernel
  have L_25 := hts (.fieldLink RX11 25 "CaseOrder" "texts" "[LCaseOrder$Text;") (by decide +kernel)
  have i_X8 : ∀ w ∈ u_ws RX8 TX8 2, w ∈ wsX11_sayings := by decide +kernel
  have L_84 := hts (.fieldLink RX11 84 "CaseOrder$Text" "size" "I") (by decide +kernel)
  unfold f_X11_sayings at hf
  refine lv_iload_n hx hb dX11_sayings_0 rfl (lv_at hl 1 rfl) ?_
  obtain ⟨q4, hq4, hf⟩ := bd hf
  refine g_Si (As := [.int p1]) (rest := []) ⟨hx, hb, hml, hown, hts⟩ (k_X11_isTeller hq4) (va_cwS 1 hts gX11_sayings_X11_isTeller rfl rfl rfl (by decide +kernel) ⟨Nat.le_of_ble_eq_true rfl, Nat.le_of_ble_eq_true rfl⟩) STC_ok hst hK hw (eC_len.trans eC_len.symm) rfl hl.1 rfl (Nat.le_of_ble_eq_true rfl) dX11_sayings_1 ⟨Nat.zero_le _, Nat.zero_le _⟩ (fun H locs hw => ?_)
  refine lv_if_ne (tgt := 17) hx hb dX11_sayings_4 (by decide) (fun c5 => ?_) (fun c5 => ?_)
  · have hf := it_n c5 hf
    refine lv_aload_n hx hb dX11_sayings_17 rfl (lv_at hl 0 rfl) ?_
    refine g_get hx hb hts i_X11 hown hK hw 0 eC_c0 rfl 2 (by decide) L_25 (fun _ h => h) rfl dX11_sayings_18 ?_
    refine lv_iload_n hx hb dX11_sayings_21 rfl (lv_at hl 1 rfl) ?_
    obtain ⟨g6, hf⟩ := gIn_some hf
    refine g_aald hx hb hK hw 6 4 eC_c6 rfl g6 dX11_sayings_22 rfl ?_
    obtain ⟨g7, hf⟩ := gN_some hf
    refine g_get hx hb hts i_X8 hown hK hw (26 + (t_texts (Int32.toNatClampNeg p1))) (eC_T g7) rfl 1 (by decide) L_84 (fun _ h => h) rfl dX11_sayings_23 ?_
    obtain rfl := so hf
    exact g_retX hx hb hr hlocks hw dX11_sayings_26 rfl
  · have hf := it_p c5 hf
    obtain rfl := so hf
    exact g_thr (ws := wsX11_sayings) (ik := 67) (ic := 71) (E := exI) 0 (by decide) hx hb htr hown hlocks hno hts (Or.inl ⟨rfl, rfl, rfl⟩) hk_1.1 hk_1.2.1 hk_1.2.2 hsx hw (hl.1.trans hml.symm) dX11_sayings_7 dX11_sayings_10 dX11_sayings_11 dX11_sayings_13 dX11_sayings_16 ⟨by decide, by decide, by decide, by decide⟩
set_option maxHeartbeats 4000000 in
theorem k_X11_sayings {l : Launch} (htr : l.stackTraces = false) {D : va_G} {ad : Nat → Nat} {y : Nat → ClassId} {adE adK adV : Nat → Nat} {tkA swA : Nat} {sa : Nat → Nat} {m_out : Int32} {t_draft : Nat} {m_tlen : Int32} {a_bytes : Nat → Int32} {m_nsize : Int32} {m_drafted : Int32} {a_letters : Nat → Int32} {a_nlen : Nat → Int32} {t_texts : Nat → Nat} {m_here : Int32} {m_fkind : Int32} {m_fplace : Int32} {m_toks : Int32} {t_types : Nat → Nat} {a_starts : Nat → Int32} {a_tlens : Nat → Int32} {m_heard : Int32} {m_qsize : Int32} {m_wayKnown : Int32} {m_way : Int32} {m_qKnown : Int32} {m_lineKnown : Int32} {m_nodes : Int32} {m_lsize : Int32} {a_tails : Nat → Int32} {a_heads : Nat → Int32} {a_gaps : Nat → Int32} {a_least : Nat → Int32} {m_csize : Int32} {a_ctails : Nat → Int32} {a_cheads : Nat → Int32} {a_cgaps : Nat → Int32} {a_leftOut : Nat → Int32} {a_qrow : Nat → Int32} {a_line : Nat → Int32} {a_tsize : Nat → Int32} {t_word : Nat → Nat} {a_own : Nat → Int32} {a_oth : Nat → Int32} {a_fst : Nat → Int32} {a_snd : Nat → Int32} {a_plc : Nat → Int32} {p1 : Int32} {res : (Int32) ⊕ (Nat)} (hf : f_X11_sayings t_texts a_tsize p1 = some res) : CTX l yX11_sayings wsX11_sayings rm_X11_sayings D ad 124 (tyL y) (STX ad adE adK adV tkA swA sa) (eC ad adE y m_out t_draft m_tlen a_bytes m_nsize m_drafted a_letters a_nlen t_texts m_here m_fkind m_fplace m_toks t_types a_starts a_tlens m_heard m_qsize m_wayKnown m_way m_qKnown m_lineKnown m_nodes m_lsize a_tails a_heads a_gaps a_least m_csize a_ctails a_cheads a_cgaps a_leftOut a_qrow a_line a_tsize t_word a_own a_oth a_fst a_snd a_plc) [.ref (ad 0), .int p1] (rx_X11_sayings ad y adE m_out t_draft m_tlen a_bytes m_nsize m_drafted a_letters a_nlen t_texts m_here m_fkind m_fplace m_toks t_types a_starts a_tlens m_heard m_qsize m_wayKnown m_way m_qKnown m_lineKnown m_nodes m_lsize a_tails a_heads a_gaps a_least m_csize a_ctails a_cheads a_cgaps a_leftOut a_qrow a_line a_tsize t_word a_own a_oth a_fst a_snd a_plc res) := by
  intro sz
  refine vx_ofW (cc := cX11_sayings) (maxL := 2) (ret := (some .int)) (by decide) rfl ?_
  intro p e s m args below meth c s₁ B hml hno hv
  obtain ⟨rfl, hsz, hP, hK, hD0, hst⟩ := hv
  subst hsz
  have C0 : CXT wsX11_sayings cX11_sayings RX11 2 (some .int) D (tyL y) (STX ad adE adK adV tkA swA sa) p s m ([.ref (ad 0), .int p1] : List Value).toArray meth c ∧ (∀ x ∈ c.exceptionTable.toList, False) ∧ l.stackTraces = false := ⟨⟨B.exec, B.bytes, B.returns, hml, findClass_of_methodNamed B.named, atoms_spec (ws := wsX11_sayings) B.pre, B.notSynchronized, hK, hst⟩, hno, htr⟩
  have hw := g_start (n := 124) eC_len hP hD0
  have hl := lv_entry ([.ref (ad 0), .int p1]) (n := 2) (Nat.le_of_ble_eq_true rfl)
  rw [lg_entry_eq]
  generalize (lg_sl ([.ref (ad 0), .int p1]) ++ List.replicate (2 - (lg_sl ([.ref (ad 0), .int p1])).length) Slot.unset).toArray = ls at hl ⊢
  have hl : lv_has ls 2 [(0, .ref (ad 0)), (1, .int p1)] := hl
  exact ke_X11_sayings C0 hf hw hl
abbrev rm_X11_octet : Room := { frames := 6, cells := 1, slots := 6, locals := 82 }
abbrev rx_X11_octet (ad : Nat → Nat) (y : Nat → ClassId) (adE : Nat → Nat) (m_out : Int32) (t_draft : Nat) (m_tlen : Int32) (a_bytes : Nat → Int32) (m_nsize : Int32) (m_drafted : Int32) (a_letters : Nat → Int32) (a_nlen : Nat → Int32) (t_texts : Nat → Nat) (m_here : Int32) (m_fkind : Int32) (m_fplace : Int32) (m_toks : Int32) (t_types : Nat → Nat) (a_starts : Nat → Int32) (a_tlens : Nat → Int32) (m_heard : Int32) (m_qsize : Int32) (m_wayKnown : Int32) (m_way : Int32) (m_qKnown : Int32) (m_lineKnown : Int32) (m_nodes : Int32) (m_lsize : Int32) (a_tails : Nat → Int32) (a_heads : Nat → Int32) (a_gaps : Nat → Int32) (a_least : Nat → Int32) (m_csize : Int32) (a_ctails : Nat → Int32) (a_cheads : Nat → Int32) (a_cgaps : Nat → Int32) (a_leftOut : Nat → Int32) (a_qrow : Nat → Int32) (a_line : Nat → Int32) (a_tsize : Nat → Int32) (t_word : Nat → Nat) (a_own : Nat → Int32) (a_oth : Nat → Int32) (a_fst : Nat → Int32) (a_snd : Nat → Int32) (a_plc : Nat → Int32) (res : (Int32) ⊕ (Nat)) : ResX := match res with
  | .inl r => .inl (r, (eC ad adE y m_out t_draft m_tlen a_bytes m_nsize m_drafted a_letters a_nlen t_texts m_here m_fkind m_fplace m_toks t_types a_starts a_tlens m_heard m_qsize m_wayKnown m_way m_qKnown m_lineKnown m_nodes m_lsize a_tails a_heads a_gaps a_least m_csize a_ctails a_cheads a_cgaps a_leftOut a_qrow a_line a_tsize t_word a_own a_oth a_fst a_snd a_plc))
  | .inr r => .inr (exN r, (eC ad adE y m_out t_draft m_tlen a_bytes m_nsize m_drafted a_letters a_nlen t_texts m_here m_fkind m_fplace m_toks t_types a_starts a_tlens m_heard m_qsize m_wayKnown m_way m_qKnown m_lineKnown m_nodes m_lsize a_tails a_heads a_gaps a_least m_csize a_ctails a_cheads a_cgaps a_leftOut a_qrow a_line a_tsize t_word a_own a_oth a_fst a_snd a_plc))
abbrev QM_X11_octet (below : List Frame) (args : Array Value) (s : State) (D : va_G) (ad : Nat → Nat) (y : Nat → ClassId) (adE : Nat → Nat) (m_out : Int32) (t_draft : Nat) (m_tlen : Int32) (a_bytes : Nat → Int32) (m_nsize : Int32) (m_drafted : Int32) (a_letters : Nat → Int32) (a_nlen : Nat → Int32) (t_texts : Nat → Nat) (m_here : Int32) (m_fkind : Int32) (m_fplace : Int32) (m_toks : Int32) (t_types : Nat → Nat) (a_starts : Nat → Int32) (a_tlens : Nat → Int32) (m_heard : Int32) (m_qsize : Int32) (m_wayKnown : Int32) (m_way : Int32) (m_qKnown : Int32) (m_lineKnown : Int32) (m_nodes : Int32) (m_lsize : Int32) (a_tails : Nat → Int32) (a_heads : Nat → Int32) (a_gaps : Nat → Int32) (a_least : Nat → Int32) (m_csize : Int32) (a_ctails : Nat → Int32) (a_cheads : Nat → Int32) (a_cgaps : Nat → Int32) (a_leftOut : Nat → Int32) (a_qrow : Nat → Int32) (a_line : Nat → Int32) (a_tsize : Nat → Int32) (t_word : Nat → Nat) (a_own : Nat → Int32) (a_oth : Nat → Int32) (a_fst : Nat → Int32) (a_snd : Nat → Int32) (a_plc : Nat → Int32) (res : (Int32) ⊕ (Nat)) : State → Prop := vx_MQ below (QcX D ad 124 s.heap.size (rx_X11_octet ad y adE m_out t_draft m_tlen a_bytes m_nsize m_drafted a_letters a_nlen t_texts m_here m_fkind m_fplace m_toks t_types a_starts a_tlens m_heard m_qsize m_wayKnown m_way m_qKnown m_lineKnown m_nodes m_lsize a_tails a_heads a_gaps a_least m_csize a_ctails a_cheads a_cgaps a_leftOut a_qrow a_line a_tsize t_word a_own a_oth a_fst a_snd a_plc res)) (XcX D ad 124 s.heap.size (rx_X11_octet ad y adE m_out t_draft m_tlen a_bytes m_nsize m_drafted a_letters a_nlen t_texts m_here m_fkind m_fplace m_toks t_types a_starts a_tlens m_heard m_qsize m_wayKnown m_way m_qKnown m_lineKnown m_nodes m_lsize a_tails a_heads a_gaps a_least m_csize a_ctails a_cheads a_cgaps a_leftOut a_qrow a_line a_tsize t_word a_own a_oth a_fst a_snd a_plc res)) args s 1 6 (Aw ad 124 s.heap.size)
set_option maxRecDepth 100000 in
theorem kxX11_octet_2 : Cond.classLink RX11 96 exS ∈ wsX11_octet ∧ Cond.initialized exS ∈ wsX11_octet ∧ ∀ w ∈ (vx_atX RX11 100 exS 13 prog_25_method_4_code thN).filter goodWord, w ∈ wsX11_octet := by decide +kernel
set_option maxHeartbeats 4000000 in
set_option maxRecDepth 100000 in
theorem kb_X11_octet_b12 {p : Program} {l : Launch} {e : Env} {s : State} {m : MethodId} {args : Array Value} {below : List Frame} {meth : Method} {c : Code} {D : va_G} {ad : Nat → Nat} {y : Nat → ClassId} {adE adK adV : Nat → Nat} {tkA swA : Nat} {sa : Nat → Nat} (C0 : CXT wsX11_octet cX11_octet RX11 2 (some .int) D (tyL y) (STX ad adE adK adV tkA swA sa) p s m args meth c ∧ (∀ x ∈ c.exceptionTable.toList, False) ∧ l.stackTraces = false) {m_out : Int32} {t_draft : Nat} {m_tlen : Int32} {a_bytes : Nat → Int32} {m_nsize : Int32} {m_drafted : Int32} {a_letters : Nat → Int32} {a_nlen : Nat → Int32} {t_texts : Nat → Nat} {m_here : Int32} {m_fkind : Int32} {m_fplace : Int32} {m_toks : Int32} {t_types : Nat → Nat} {a_starts : Nat → Int32} {a_tlens : Nat → Int32} {m_heard : Int32} {m_qsize : Int32} {m_wayKnown : Int32} {m_way : Int32} {m_qKnown : Int32} {m_lineKnown : Int32} {m_nodes : Int32} {m_lsize : Int32} {a_tails : Nat → Int32} {a_heads : Nat → Int32} {a_gaps : Nat → Int32} {a_least : Nat → Int32} {m_csize : Int32} {a_ctails : Nat → Int32} {a_cheads : Nat → Int32} {a_cgaps : Nat → Int32} {a_leftOut : Nat → Int32} {a_qrow : Nat → Int32} {a_line : Nat → Int32} {a_tsize : Nat → Int32} {t_word : Nat → Nat} {a_own : Nat → Int32} {a_oth : Nat → Int32} {a_fst : Nat → Int32} {a_snd : Nat → Int32} {a_plc : Nat → Int32}    {res : (Int32) ⊕ (Nat)} (hf : f_X11_octet_b12 m_out m_nsize a_letters a_nlen = some res) {H : Heap} {locs : List Loc} {ls : Array Slot} (hw : Wo D ad (Aw ad 124 s.heap.size) (eC ad adE y m_out t_draft m_tlen a_bytes m_nsize m_drafted a_letters a_nlen t_texts m_here m_fkind m_fplace m_toks t_types a_starts a_tlens m_heard m_qsize m_wayKnown m_way m_qKnown m_lineKnown m_nodes m_lsize a_tails a_heads a_gaps a_least m_csize a_ctails a_cheads a_cgaps a_leftOut a_qrow a_line a_tsize t_word a_own a_oth a_fst a_snd a_plc) s.heap H locs) (hl : lv_has ls 2 []) : W p l e rm_X11_octet s m args below meth c H locs 0 0 (QM_X11_octet below args s D ad y adE (m_out) (t_draft) (m_tlen) (a_bytes) (m_nsize) (m_drafted) (a_letters) (a_nlen) (t_texts) (m_here) (m_fkind) (m_fplace) (m_toks) (t_types) (a_starts) (a_tlens) (m_heard) (m_qsize) (m_wayKnown) (m_way) (m_qKnown) (m_lineKnown) (m_nodes) (m_lsize) (a_tails) (a_heads) (a_gaps) (a_least) (m_csize) (a_ctails) (a_cheads) (a_cgaps) (a_leftOut) (a_qrow) (a_line) (a_tsize) (t_word) (a_own) (a_oth) (a_fst) (a_snd) (a_plc) res) (F0 m 12 ls []) := by
  obtain ⟨⟨hx, hb, hr, hml, hown, hts, hlocks, hK, hsx⟩, hno, htr⟩ := id C0
  have hst := hsx.1
  have hk_2 := kxX11_octet_2
  unfold f_X11_octet_b12 at hf
  obtain rfl := so hf
  exact g_thrN (ws := wsX11_octet) 3 (by decide) hx hb htr hown hlocks hno hts hk_2.1 hk_2.2.1 hk_2.2.2 hsx hw (hl.1.trans hml.symm) dX11_octet_12 dX11_octet_15 dX11_octet_16 dX11_octet_18 dX11_octet_21 ⟨by decide, by decide, by decide, by decide⟩
set_option maxHeartbeats 4000000 in
set_option maxRecDepth 100000 in
theorem ke_X11_octet {p : Program} {l : Launch} {e : Env} {s : State} {m : MethodId} {args : Array Value} {below : List Frame} {meth : Method} {c : Code} {D : va_G} {ad : Nat → Nat} {y : Nat → ClassId} {adE adK adV : Nat → Nat} {tkA swA : Nat} {sa : Nat → Nat} (C0 : CXT wsX11_octet cX11_octet RX11 2 (some .int) D (tyL y) (STX ad adE adK adV tkA swA sa) p s m args meth c ∧ (∀ x ∈ c.exceptionTable.toList, False) ∧ l.stackTraces = false) {m_out : Int32} {t_draft : Nat} {m_tlen : Int32} {a_bytes : Nat → Int32} {m_nsize : Int32} {m_drafted : Int32} {a_letters : Nat → Int32} {a_nlen : Nat → Int32} {t_texts : Nat → Nat} {m_here : Int32} {m_fkind : Int32} {m_fplace : Int32} {m_toks : Int32} {t_types : Nat → Nat} {a_starts : Nat → Int32} {a_tlens : Nat → Int32} {m_heard : Int32} {m_qsize : Int32} {m_wayKnown : Int32} {m_way : Int32} {m_qKnown : Int32} {m_lineKnown : Int32} {m_nodes : Int32} {m_lsize : Int32} {a_tails : Nat → Int32} {a_heads : Nat → Int32} {a_gaps : Nat → Int32} {a_least : Nat → Int32} {m_csize : Int32} {a_ctails : Nat → Int32} {a_cheads : Nat → Int32} {a_cgaps : Nat → Int32} {a_leftOut : Nat → Int32} {a_qrow : Nat → Int32} {a_line : Nat → Int32} {a_tsize : Nat → Int32} {t_word : Nat → Nat} {a_own : Nat → Int32} {a_oth : Nat → Int32} {a_fst : Nat → Int32} {a_snd : Nat → Int32} {a_plc : Nat → Int32} {p1 : Int32} {res : (Int32) ⊕ (Nat)} (hf : f_X11_octet m_out m_nsize a_letters a_nlen p1 = some res) {H : Heap} {locs : List Loc} {ls : Array Slot} (hw : Wo D ad (Aw ad 124 s.heap.size) (eC ad adE y m_out t_draft m_tlen a_bytes m_nsize m_drafted a_letters a_nlen t_texts m_here m_fkind m_fplace m_toks t_types a_starts a_tlens m_heard m_qsize m_wayKnown m_way m_qKnown m_lineKnown m_nodes m_lsize a_tails a_heads a_gaps a_least m_csize a_ctails a_cheads a_cgaps a_leftOut a_qrow a_line a_tsize t_word a_own a_oth a_fst a_snd a_plc) s.heap H locs) (hl : lv_has ls 2 [(0, .ref (ad 0)), (1, .int p1)]) : W p l e rm_X11_octet s m args below meth c H locs 0 0 (QM_X11_octet below args s D ad y adE (m_out) (t_draft) (m_tlen) (a_bytes) (m_nsize) (m_drafted) (a_letters) (a_nlen) (t_texts) (m_here) (m_fkind) (m_fplace) (m_toks) (t_types) (a_starts) (a_tlens) (m_heard) (m_qsize) (m_wayKnown) (m_way) (m_qKnown) (m_lineKnown) (m_nodes) (m_lsize) (a_tails) (a_heads) (a_gaps) (a_least) (m_csize) (a_ctails) (a_cheads) (a_cgaps) (a_leftOut) (a_qrow) (a_line) (a_tsize) (t_word) (a_own) (a_oth) (a_fst) (a_snd) (a_plc) res) (F0 m 0 ls []) := by
  obtain ⟨⟨hx, hb, hr, hml, hown, hts, hlocks, hK, hsx⟩, hno, htr⟩ := id C0
  have hst := hsx.1
  have i_X11 : ∀ w ∈ u_ws RX11 TX11 7, w ∈ wsX11_octet := by decide +kernel
  have L_19 := hts (.fieldLink RX11 19 "CaseOrder" "names" "LCaseOrder$Names;") (by decide +kernel)
  have L_52 := hts (.fieldLink RX11 52 "CaseOrder" "out" "I") (by decide +kernel)
  unfold f_X11_octet at hf
  refine lv_iload_n hx hb dX11_octet_0 rfl (lv_at hl 1 rfl) ?_
  refine lv_if_lt (tgt := 12) hx hb dX11_octet_1 (by decide) (fun c3 => ?_) (fun c3 => ?_)
  · have hf := it_p c3 hf
    exact kb_X11_octet_b12 C0 hf hw (lv_sub hl [] rfl)
  · have hf := it_n c3 hf
    refine lv_iload_n hx hb dX11_octet_4 rfl (lv_at hl 1 rfl) ?_
    refine lv_aload_n hx hb dX11_octet_5 rfl (lv_at hl 0 rfl) ?_
    obtain ⟨q4, hq4, hf⟩ := bd hf
    refine g_Vi (As := []) (rest := [.int p1]) ⟨hx, hb, hml, hown, hts⟩ (k_X11_outLength hq4) (cwV 0 hts gX11_octet_X11_outLength rfl rfl rfl (by decide +kernel) ⟨Nat.le_of_ble_eq_true rfl, Nat.le_of_ble_eq_true rfl⟩) STC_ok hst hK hw (eC_len.trans eC_len.symm) eC_c0 rfl rfl hl.1 rfl (Nat.le_of_ble_eq_true rfl) dX11_octet_6 ⟨Nat.zero_le _, Nat.zero_le _⟩ (fun H locs hw => ?_)
    refine lv_icmp_lt (tgt := 22) hx hb dX11_octet_9 (by decide) (fun c5 => ?_) (fun c5 => ?_)
    · have hf := it_p c5 hf
      refine lv_aload_n hx hb dX11_octet_22 rfl (lv_at hl 0 rfl) ?_
      refine g_get hx hb hts i_X11 hown hK hw 0 eC_c0 rfl 1 (by decide) L_19 (fun _ h => h) rfl dX11_octet_23 ?_
      refine lv_aload_n hx hb dX11_octet_26 rfl (lv_at hl 0 rfl) ?_
      refine g_get hx hb hts i_X11 hown hK hw 0 eC_c0 rfl 5 (by decide) L_52 (fun _ h => h) rfl dX11_octet_27 ?_
      refine lv_iload_n hx hb dX11_octet_30 rfl (lv_at hl 1 rfl) ?_
      obtain ⟨q6, hq6, hf⟩ := bd hf
      refine g_Vi (As := [.int m_out, .int p1]) (rest := []) ⟨hx, hb, hml, hown, hts⟩ (k_X3_letter hq6) (cwV 2 hts gX11_octet_X3_letter rfl rfl rfl (by decide +kernel) ⟨Nat.le_of_ble_eq_true rfl, Nat.le_of_ble_eq_true rfl⟩) STC_ok hst hK hw (eC_len.trans eC_len.symm) eC_c3 rfl rfl hl.1 rfl (Nat.le_of_ble_eq_true rfl) dX11_octet_31 ⟨Nat.zero_le _, Nat.zero_le _⟩ (fun H locs hw => ?_)
      obtain rfl := so hf
      exact g_retX hx hb hr hlocks hw dX11_octet_34 rfl
    · have hf := it_n c5 hf
      exact kb_X11_octet_b12 C0 hf hw (lv_sub hl [] rfl)
set_option maxHeartbeats 4000000 in
theorem k_X11_octet {l : Launch} (htr : l.stackTraces = false) {D : va_G} {ad : Nat → Nat} {y : Nat → ClassId} {adE adK adV : Nat → Nat} {tkA swA : Nat} {sa : Nat → Nat} {m_out : Int32} {t_draft : Nat} {m_tlen : Int32} {a_bytes : Nat → Int32} {m_nsize : Int32} {m_drafted : Int32} {a_letters : Nat → Int32} {a_nlen : Nat → Int32} {t_texts : Nat → Nat} {m_here : Int32} {m_fkind : Int32} {m_fplace : Int32} {m_toks : Int32} {t_types : Nat → Nat} {a_starts : Nat → Int32} {a_tlens : Nat → Int32} {m_heard : Int32} {m_qsize : Int32} {m_wayKnown : Int32} {m_way : Int32} {m_qKnown : Int32} {m_lineKnown : Int32} {m_nodes : Int32} {m_lsize : Int32} {a_tails : Nat → Int32} {a_heads : Nat → Int32} {a_gaps : Nat → Int32} {a_least : Nat → Int32} {m_csize : Int32} {a_ctails : Nat → Int32} {a_cheads : Nat → Int32} {a_cgaps : Nat → Int32} {a_leftOut : Nat → Int32} {a_qrow : Nat → Int32} {a_line : Nat → Int32} {a_tsize : Nat → Int32} {t_word : Nat → Nat} {a_own : Nat → Int32} {a_oth : Nat → Int32} {a_fst : Nat → Int32} {a_snd : Nat → Int32} {a_plc : Nat → Int32} {p1 : Int32} {res : (Int32) ⊕ (Nat)} (hf : f_X11_octet m_out m_nsize a_letters a_nlen p1 = some res) : CTX l yX11_octet wsX11_octet rm_X11_octet D ad 124 (tyL y) (STX ad adE adK adV tkA swA sa) (eC ad adE y m_out t_draft m_tlen a_bytes m_nsize m_drafted a_letters a_nlen t_texts m_here m_fkind m_fplace m_toks t_types a_starts a_tlens m_heard m_qsize m_wayKnown m_way m_qKnown m_lineKnown m_nodes m_lsize a_tails a_heads a_gaps a_least m_csize a_ctails a_cheads a_cgaps a_leftOut a_qrow a_line a_tsize t_word a_own a_oth a_fst a_snd a_plc) [.ref (ad 0), .int p1] (rx_X11_octet ad y adE m_out t_draft m_tlen a_bytes m_nsize m_drafted a_letters a_nlen t_texts m_here m_fkind m_fplace m_toks t_types a_starts a_tlens m_heard m_qsize m_wayKnown m_way m_qKnown m_lineKnown m_nodes m_lsize a_tails a_heads a_gaps a_least m_csize a_ctails a_cheads a_cgaps a_leftOut a_qrow a_line a_tsize t_word a_own a_oth a_fst a_snd a_plc res) := by
  intro sz
  refine vx_ofW (cc := cX11_octet) (maxL := 2) (ret := (some .int)) (by decide) rfl ?_
  intro p e s m args below meth c s₁ B hml hno hv
  obtain ⟨rfl, hsz, hP, hK, hD0, hst⟩ := hv
  subst hsz
  have C0 : CXT wsX11_octet cX11_octet RX11 2 (some .int) D (tyL y) (STX ad adE adK adV tkA swA sa) p s m ([.ref (ad 0), .int p1] : List Value).toArray meth c ∧ (∀ x ∈ c.exceptionTable.toList, False) ∧ l.stackTraces = false := ⟨⟨B.exec, B.bytes, B.returns, hml, findClass_of_methodNamed B.named, atoms_spec (ws := wsX11_octet) B.pre, B.notSynchronized, hK, hst⟩, hno, htr⟩
  have hw := g_start (n := 124) eC_len hP hD0
  have hl := lv_entry ([.ref (ad 0), .int p1]) (n := 2) (Nat.le_of_ble_eq_true rfl)
  rw [lg_entry_eq]
  generalize (lg_sl ([.ref (ad 0), .int p1]) ++ List.replicate (2 - (lg_sl ([.ref (ad 0), .int p1])).length) Slot.unset).toArray = ls at hl ⊢
  have hl : lv_has ls 2 [(0, .ref (ad 0)), (1, .int p1)] := hl
  exact ke_X11_octet C0 hf hw hl
abbrev rm_X11_saying : Room := { frames := 6, cells := 1, slots := 6, locals := 82 }
abbrev rx_X11_saying (ad : Nat → Nat) (y : Nat → ClassId) (adE : Nat → Nat) (m_out : Int32) (t_draft : Nat) (m_tlen : Int32) (a_bytes : Nat → Int32) (m_nsize : Int32) (m_drafted : Int32) (a_letters : Nat → Int32) (a_nlen : Nat → Int32) (t_texts : Nat → Nat) (m_here : Int32) (m_fkind : Int32) (m_fplace : Int32) (m_toks : Int32) (t_types : Nat → Nat) (a_starts : Nat → Int32) (a_tlens : Nat → Int32) (m_heard : Int32) (m_qsize : Int32) (m_wayKnown : Int32) (m_way : Int32) (m_qKnown : Int32) (m_lineKnown : Int32) (m_nodes : Int32) (m_lsize : Int32) (a_tails : Nat → Int32) (a_heads : Nat → Int32) (a_gaps : Nat → Int32) (a_least : Nat → Int32) (m_csize : Int32) (a_ctails : Nat → Int32) (a_cheads : Nat → Int32) (a_cgaps : Nat → Int32) (a_leftOut : Nat → Int32) (a_qrow : Nat → Int32) (a_line : Nat → Int32) (a_tsize : Nat → Int32) (t_word : Nat → Nat) (a_own : Nat → Int32) (a_oth : Nat → Int32) (a_fst : Nat → Int32) (a_snd : Nat → Int32) (a_plc : Nat → Int32) (res : (Int32) ⊕ (Nat)) : ResX := match res with
  | .inl r => .inl (r, (eC ad adE y m_out t_draft m_tlen a_bytes m_nsize m_drafted a_letters a_nlen t_texts m_here m_fkind m_fplace m_toks t_types a_starts a_tlens m_heard m_qsize m_wayKnown m_way m_qKnown m_lineKnown m_nodes m_lsize a_tails a_heads a_gaps a_least m_csize a_ctails a_cheads a_cgaps a_leftOut a_qrow a_line a_tsize t_word a_own a_oth a_fst a_snd a_plc))
  | .inr r => .inr (exN r, (eC ad adE y m_out t_draft m_tlen a_bytes m_nsize m_drafted a_letters a_nlen t_texts m_here m_fkind m_fplace m_toks t_types a_starts a_tlens m_heard m_qsize m_wayKnown m_way m_qKnown m_lineKnown m_nodes m_lsize a_tails a_heads a_gaps a_least m_csize a_ctails a_cheads a_cgaps a_leftOut a_qrow a_line a_tsize t_word a_own a_oth a_fst a_snd a_plc))
abbrev QM_X11_saying (below : List Frame) (args : Array Value) (s : State) (D : va_G) (ad : Nat → Nat) (y : Nat → ClassId) (adE : Nat → Nat) (m_out : Int32) (t_draft : Nat) (m_tlen : Int32) (a_bytes : Nat → Int32) (m_nsize : Int32) (m_drafted : Int32) (a_letters : Nat → Int32) (a_nlen : Nat → Int32) (t_texts : Nat → Nat) (m_here : Int32) (m_fkind : Int32) (m_fplace : Int32) (m_toks : Int32) (t_types : Nat → Nat) (a_starts : Nat → Int32) (a_tlens : Nat → Int32) (m_heard : Int32) (m_qsize : Int32) (m_wayKnown : Int32) (m_way : Int32) (m_qKnown : Int32) (m_lineKnown : Int32) (m_nodes : Int32) (m_lsize : Int32) (a_tails : Nat → Int32) (a_heads : Nat → Int32) (a_gaps : Nat → Int32) (a_least : Nat → Int32) (m_csize : Int32) (a_ctails : Nat → Int32) (a_cheads : Nat → Int32) (a_cgaps : Nat → Int32) (a_leftOut : Nat → Int32) (a_qrow : Nat → Int32) (a_line : Nat → Int32) (a_tsize : Nat → Int32) (t_word : Nat → Nat) (a_own : Nat → Int32) (a_oth : Nat → Int32) (a_fst : Nat → Int32) (a_snd : Nat → Int32) (a_plc : Nat → Int32) (res : (Int32) ⊕ (Nat)) : State → Prop := vx_MQ below (QcX D ad 124 s.heap.size (rx_X11_saying ad y adE m_out t_draft m_tlen a_bytes m_nsize m_drafted a_letters a_nlen t_texts m_here m_fkind m_fplace m_toks t_types a_starts a_tlens m_heard m_qsize m_wayKnown m_way m_qKnown m_lineKnown m_nodes m_lsize a_tails a_heads a_gaps a_least m_csize a_ctails a_cheads a_cgaps a_leftOut a_qrow a_line a_tsize t_word a_own a_oth a_fst a_snd a_plc res)) (XcX D ad 124 s.heap.size (rx_X11_saying ad y adE m_out t_draft m_tlen a_bytes m_nsize m_drafted a_letters a_nlen t_texts m_here m_fkind m_fplace m_toks t_types a_starts a_tlens m_heard m_qsize m_wayKnown m_way m_qKnown m_lineKnown m_nodes m_lsize a_tails a_heads a_gaps a_least m_csize a_ctails a_cheads a_cgaps a_leftOut a_qrow a_line a_tsize t_word a_own a_oth a_fst a_snd a_plc res)) args s 1 6 (Aw ad 124 s.heap.size)
set_option maxRecDepth 100000 in
theorem kxX11_saying_1 : Cond.classLink RX11 67 exI ∈ wsX11_saying ∧ Cond.initialized exI ∈ wsX11_saying ∧ ∀ w ∈ (vx_atS RX11 71 exI thN).filter goodWord, w ∈ wsX11_saying := by decide +kernel
set_option maxRecDepth 100000 in
theorem kxX11_saying_2 : Cond.classLink RX11 96 exS ∈ wsX11_saying ∧ Cond.initialized exS ∈ wsX11_saying ∧ ∀ w ∈ (vx_atX RX11 100 exS 13 prog_25_method_4_code thN).filter goodWord, w ∈ wsX11_saying := by decide +kernel
set_option maxHeartbeats 4000000 in
set_option maxRecDepth 100000 in
theorem ke_X11_saying {p : Program} {l : Launch} {e : Env} {s : State} {m : MethodId} {args : Array Value} {below : List Frame} {meth : Method} {c : Code} {D : va_G} {ad : Nat → Nat} {y : Nat → ClassId} {adE adK adV : Nat → Nat} {tkA swA : Nat} {sa : Nat → Nat} (C0 : CXT wsX11_saying cX11_saying RX11 5 (some .int) D (tyL y) (STX ad adE adK adV tkA swA sa) p s m args meth c ∧ (∀ x ∈ c.exceptionTable.toList, False) ∧ l.stackTraces = false) {m_out : Int32} {t_draft : Nat} {m_tlen : Int32} {a_bytes : Nat → Int32} {m_nsize : Int32} {m_drafted : Int32} {a_letters : Nat → Int32} {a_nlen : Nat → Int32} {t_texts : Nat → Nat} {m_here : Int32} {m_fkind : Int32} {m_fplace : Int32} {m_toks : Int32} {t_types : Nat → Nat} {a_starts : Nat → Int32} {a_tlens : Nat → Int32} {m_heard : Int32} {m_qsize : Int32} {m_wayKnown : Int32} {m_way : Int32} {m_qKnown : Int32} {m_lineKnown : Int32} {m_nodes : Int32} {m_lsize : Int32} {a_tails : Nat → Int32} {a_heads : Nat → Int32} {a_gaps : Nat → Int32} {a_least : Nat → Int32} {m_csize : Int32} {a_ctails : Nat → Int32} {a_cheads : Nat → Int32} {a_cgaps : Nat → Int32} {a_leftOut : Nat → Int32} {a_qrow : Nat → Int32} {a_line : Nat → Int32} {a_tsize : Nat → Int32} {t_word : Nat → Nat} {a_own : Nat → Int32} {a_oth : Nat → Int32} {a_fst : Nat → Int32} {a_snd : Nat → Int32} {a_plc : Nat → Int32} {p1 : Int32} {p2 : Int32} {p3 : Int32} {res : (Int32) ⊕ (Nat)} (hf : f_X11_saying t_texts a_tsize t_word a_own a_oth a_fst a_snd a_plc p1 p2 p3 = some res) {H : Heap} {locs : List Loc} {ls : Array Slot} (hw : Wo D ad (Aw ad 124 s.heap.size) (eC ad adE y m_out t_draft m_tlen a_bytes m_nsize m_drafted a_letters a_nlen t_texts m_here m_fkind m_fplace m_toks t_types a_starts a_tlens m_heard m_qsize m_wayKnown m_way m_qKnown m_lineKnown m_nodes m_lsize a_tails a_heads a_gaps a_least m_csize a_ctails a_cheads a_cgaps a_leftOut a_qrow a_line a_tsize t_word a_own a_oth a_fst a_snd a_plc) s.heap H locs) (hl : lv_has ls 5 [(0, .ref (ad 0)), (1, .int p1), (2, .int p2), (3, .int p3)]) : W p l e rm_X11_saying s m args below meth c H locs 0 0 (QM_X11_saying below args s D ad y adE (m_out) (t_draft) (m_tlen) (a_bytes) (m_nsize) (m_drafted) (a_letters) (a_nlen) (t_texts) (m_here) (m_fkind) (m_fplace) (m_toks) (t_types) (a_starts) (a_tlens) (m_heard) (m_qsize) (m_wayKnown) (m_way) (m_qKnown) (m_lineKnown) (m_nodes) (m_lsize) (a_tails) (a_heads) (a_gaps) (a_least) (m_csize) (a_ctails) (a_cheads) (a_cgaps) (a_leftOut) (a_qrow) (a_line) (a_tsize) (t_word) (a_own) (a_oth) (a_fst) (a_snd) (a_plc) res) (F0 m 0 ls []) := by
  obtain ⟨⟨hx, hb, hr, hml, hown, hts, hlocks, hK, hsx⟩, hno, htr⟩ := id C0
  have hst := hsx.1
  have hk_2 := kxX11_saying_2
  have hk_1 := kxX11_saying_1
  have i_X11 : ∀ w ∈ u_ws RX11 TX11 7, w ∈ wsX11_saying := by decide +kernel
  have L_25 := hts (.fieldLink RX11 25 "CaseOrder" "texts" "[LCaseOrder$Text;") (by decide +kernel)
  have i_X8 : ∀ w ∈ u_ws RX8 TX8 2, w ∈ wsX11_saying := by decide +kernel
  have L_101 := hts (.fieldLink RX11 101 "CaseOrder$Text" "row" "[LCaseOrder$Saying;") (by decide +kernel)
  have i_X6 : ∀ w ∈ u_ws RX6 TX6 6, w ∈ wsX11_saying := by decide +kernel
  have L_105 := hts (.fieldLink RX11 105 "CaseOrder$Saying" "word" "LCaseOrder$Token;") (by decide +kernel)
  have L_111 := hts (.fieldLink RX11 111 "CaseOrder$Token" "kind" "I") (by decide +kernel)
  have L_116 := hts (.fieldLink RX11 116 "CaseOrder$Saying" "own" "I") (by decide +kernel)
  have L_119 := hts (.fieldLink RX11 119 "CaseOrder$Saying" "other" "I") (by decide +kernel)
  have L_122 := hts (.fieldLink RX11 122 "CaseOrder$Saying" "first" "I") (by decide +kernel)
  have L_125 := hts (.fieldLink RX11 125 "CaseOrder$Saying" "second" "I") (by decide +kernel)
  have L_128 := hts (.fieldLink RX11 128 "CaseOrder$Saying" "place" "I") (by decide +kernel)
  unfold f_X11_saying at hf
  refine lv_iload_n hx hb dX11_saying_0 rfl (lv_at hl 1 rfl) ?_
  obtain ⟨q16, hq16, hf⟩ := bd hf
  refine g_Si (As := [.int p1]) (rest := []) ⟨hx, hb, hml, hown, hts⟩ (k_X11_isTeller hq16) (va_cwS 1 hts gX11_saying_X11_isTeller rfl rfl rfl (by decide +kernel) ⟨Nat.le_of_ble_eq_true rfl, Nat.le_of_ble_eq_true rfl⟩) STC_ok hst hK hw (eC_len.trans eC_len.symm) rfl hl.1 rfl (Nat.le_of_ble_eq_true rfl) dX11_saying_1 ⟨Nat.zero_le _, Nat.zero_le _⟩ (fun H locs hw => ?_)
  refine lv_if_ne (tgt := 17) hx hb dX11_saying_4 (by decide) (fun c17 => ?_) (fun c17 => ?_)
  · have hf := it_n c17 hf
    refine lv_aload_n hx hb dX11_saying_17 rfl (lv_at hl 0 rfl) ?_
    refine g_get hx hb hts i_X11 hown hK hw 0 eC_c0 rfl 2 (by decide) L_25 (fun _ h => h) rfl dX11_saying_18 ?_
    refine lv_iload_n hx hb dX11_saying_21 rfl (lv_at hl 1 rfl) ?_
    obtain ⟨g18, hf⟩ := gIn_some hf
    refine g_aald hx hb hK hw 6 4 eC_c6 rfl g18 dX11_saying_22 rfl ?_
    refine lv_iload_n hx hb dX11_saying_23 rfl (lv_at hl 2 rfl) ?_
    obtain ⟨g19, hf⟩ := gN_some hf
    obtain ⟨q20, hq20, hf⟩ := bd hf
    refine g_Vi (As := [.int p2]) (rest := []) ⟨hx, hb, hml, hown, hts⟩ (k_X8_has hq20) (cwV 1 hts gX11_saying_X8_has rfl rfl rfl (by decide +kernel) ⟨Nat.le_of_ble_eq_true rfl, Nat.le_of_ble_eq_true rfl⟩) STC_ok hst hK hw (eC_len.trans eC_len.symm) (eC_T g19) rfl rfl hl.1 rfl (Nat.le_of_ble_eq_true rfl) dX11_saying_24 ⟨Nat.zero_le _, Nat.zero_le _⟩ (fun H locs hw => ?_)
    refine lv_if_ne (tgt := 40) hx hb dX11_saying_27 (by decide) (fun c21 => ?_) (fun c21 => ?_)
    · have hf := it_n c21 hf
      refine lv_aload_n hx hb dX11_saying_40 rfl (lv_at hl 0 rfl) ?_
      refine g_get hx hb hts i_X11 hown hK hw 0 eC_c0 rfl 2 (by decide) L_25 (fun _ h => h) rfl dX11_saying_41 ?_
      refine lv_iload_n hx hb dX11_saying_44 rfl (lv_at hl 1 rfl) ?_
      obtain ⟨g22, hf⟩ := gIn_some hf
      refine g_aald hx hb hK hw 6 4 eC_c6 rfl g22 dX11_saying_45 rfl ?_
      obtain ⟨g23, hf⟩ := gN_some hf
      refine g_get hx hb hts i_X8 hown hK hw (26 + (t_texts (Int32.toNatClampNeg p1))) (eC_T g23) rfl 0 (by decide) L_101 (fun _ h => h) rfl dX11_saying_46 ?_
      refine lv_iload_n hx hb dX11_saying_49 rfl (lv_at hl 2 rfl) ?_
      obtain ⟨g24, hf⟩ := gIn_some hf
      refine g_aald hx hb hK hw (33 + (t_texts (Int32.toNatClampNeg p1))) 5 (eC_W g23) rfl g24 dX11_saying_50 rfl ?_
      refine lv_astore (lv' := [(4, .ref (ad (40 + (12 * (t_texts (Int32.toNatClampNeg p1)) + Int32.toNatClampNeg p2)))), (0, .ref (ad 0)), (1, .int p1), (2, .int p2), (3, .int p3)]) hx hb dX11_saying_51 hl (by decide) rfl (fun ls hl => ?_)
      refine lv_iload_n hx hb dX11_saying_53 rfl (lv_at hl 4 rfl) ?_
      by_cases c25 : p3 = 0
      · have hf := it_p c25 hf
        refine lv_tableIn (tgt := 92) hx hb dX11_saying_54 (by rw [c25]; decide) (by rw [c25]; decide) (by rw [c25]; rfl) (by decide) ?_
        refine lv_aload hx hb dX11_saying_92 (lv_at hl 0 rfl) ?_
        obtain ⟨g26, hf⟩ := gN_some hf
        refine g_get hx hb hts i_X6 hown hK hw (40 + (12 * (t_texts (Int32.toNatClampNeg p1)) + Int32.toNatClampNeg p2)) (eC_S g26) rfl 0 (by decide) L_105 (fun _ h => h) rfl dX11_saying_94 ?_
        obtain ⟨g27, hf⟩ := gN_some hf
        refine vk_getf hx hb (sC_kind g27 hst) hw.2.2 hown L_111 (fun _ h => h) dX11_saying_97 ?_
        obtain rfl := so hf
        exact g_retX hx hb hr hlocks hw dX11_saying_100 rfl
      have hf := it_n c25 hf
      by_cases c28 : p3 = 1
      · have hf := it_p c28 hf
        refine lv_tableIn (tgt := 101) hx hb dX11_saying_54 (by rw [c28]; decide) (by rw [c28]; decide) (by rw [c28]; rfl) (by decide) ?_
        refine lv_aload hx hb dX11_saying_101 (lv_at hl 0 rfl) ?_
        obtain ⟨g29, hf⟩ := gN_some hf
        refine g_get hx hb hts i_X6 hown hK hw (40 + (12 * (t_texts (Int32.toNatClampNeg p1)) + Int32.toNatClampNeg p2)) (eC_S g29) rfl 1 (by decide) L_116 (fun _ h => h) rfl dX11_saying_103 ?_
        obtain rfl := so hf
        exact g_retX hx hb hr hlocks hw dX11_saying_106 rfl
      have hf := it_n c28 hf
      by_cases c30 : p3 = 2
      · have hf := it_p c30 hf
        refine lv_tableIn (tgt := 107) hx hb dX11_saying_54 (by rw [c30]; decide) (by rw [c30]; decide) (by rw [c30]; rfl) (by decide) ?_
        refine lv_aload hx hb dX11_saying_107 (lv_at hl 0 rfl) ?_
        obtain ⟨g31, hf⟩ := gN_some hf
        refine g_get hx hb hts i_X6 hown hK hw (40 + (12 * (t_texts (Int32.toNatClampNeg p1)) + Int32.toNatClampNeg p2)) (eC_S g31) rfl 2 (by decide) L_119 (fun _ h => h) rfl dX11_saying_109 ?_
        obtain rfl := so hf
        exact g_retX hx hb hr hlocks hw dX11_saying_112 rfl
      have hf := it_n c30 hf
      by_cases c32 : p3 = 3
      · have hf := it_p c32 hf
        refine lv_tableIn (tgt := 113) hx hb dX11_saying_54 (by rw [c32]; decide) (by rw [c32]; decide) (by rw [c32]; rfl) (by decide) ?_
        refine lv_aload hx hb dX11_saying_113 (lv_at hl 0 rfl) ?_
        obtain ⟨g33, hf⟩ := gN_some hf
        refine g_get hx hb hts i_X6 hown hK hw (40 + (12 * (t_texts (Int32.toNatClampNeg p1)) + Int32.toNatClampNeg p2)) (eC_S g33) rfl 3 (by decide) L_122 (fun _ h => h) rfl dX11_saying_115 ?_
        obtain rfl := so hf
        exact g_retX hx hb hr hlocks hw dX11_saying_118 rfl
      have hf := it_n c32 hf
      by_cases c34 : p3 = 4
      · have hf := it_p c34 hf
        refine lv_tableIn (tgt := 119) hx hb dX11_saying_54 (by rw [c34]; decide) (by rw [c34]; decide) (by rw [c34]; rfl) (by decide) ?_
        refine lv_aload hx hb dX11_saying_119 (lv_at hl 0 rfl) ?_
        obtain ⟨g35, hf⟩ := gN_some hf
        refine g_get hx hb hts i_X6 hown hK hw (40 + (12 * (t_texts (Int32.toNatClampNeg p1)) + Int32.toNatClampNeg p2)) (eC_S g35) rfl 4 (by decide) L_125 (fun _ h => h) rfl dX11_saying_121 ?_
        obtain rfl := so hf
        exact g_retX hx hb hr hlocks hw dX11_saying_124 rfl
      have hf := it_n c34 hf
      by_cases c36 : p3 = 5
      · have hf := it_p c36 hf
        refine lv_tableIn (tgt := 125) hx hb dX11_saying_54 (by rw [c36]; decide) (by rw [c36]; decide) (by rw [c36]; rfl) (by decide) ?_
        refine lv_aload hx hb dX11_saying_125 (lv_at hl 0 rfl) ?_
        obtain ⟨g37, hf⟩ := gN_some hf
        refine g_get hx hb hts i_X6 hown hK hw (40 + (12 * (t_texts (Int32.toNatClampNeg p1)) + Int32.toNatClampNeg p2)) (eC_S g37) rfl 5 (by decide) L_128 (fun _ h => h) rfl dX11_saying_127 ?_
        obtain rfl := so hf
        exact g_retX hx hb hr hlocks hw dX11_saying_130 rfl
      have hf := it_n c36 hf
      refine lv_tableOut (tgt := 131) hx hb dX11_saying_54 (by have nc25 := sw_ne c25 (0 : Int) (by decide); have nc28 := sw_ne c28 (1 : Int) (by decide); have nc30 := sw_ne c30 (2 : Int) (by decide); have nc32 := sw_ne c32 (3 : Int) (by decide); have nc34 := sw_ne c34 (4 : Int) (by decide); have nc36 := sw_ne c36 (5 : Int) (by decide); omega) (by decide) ?_
      obtain rfl := so hf
      exact g_thrN (ws := wsX11_saying) 2 (by decide) hx hb htr hown hlocks hno hts hk_2.1 hk_2.2.1 hk_2.2.2 hsx hw (hl.1.trans hml.symm) dX11_saying_131 dX11_saying_134 dX11_saying_135 dX11_saying_137 dX11_saying_140 ⟨by decide, by decide, by decide, by decide⟩
    · have hf := it_p c21 hf
      obtain rfl := so hf
      exact g_thrN (ws := wsX11_saying) 1 (by decide) hx hb htr hown hlocks hno hts hk_2.1 hk_2.2.1 hk_2.2.2 hsx hw (hl.1.trans hml.symm) dX11_saying_30 dX11_saying_33 dX11_saying_34 dX11_saying_36 dX11_saying_39 ⟨by decide, by decide, by decide, by decide⟩
  · have hf := it_p c17 hf
    obtain rfl := so hf
    exact g_thr (ws := wsX11_saying) (ik := 67) (ic := 71) (E := exI) 0 (by decide) hx hb htr hown hlocks hno hts (Or.inl ⟨rfl, rfl, rfl⟩) hk_1.1 hk_1.2.1 hk_1.2.2 hsx hw (hl.1.trans hml.symm) dX11_saying_7 dX11_saying_10 dX11_saying_11 dX11_saying_13 dX11_saying_16 ⟨by decide, by decide, by decide, by decide⟩
set_option maxHeartbeats 4000000 in
theorem k_X11_saying {l : Launch} (htr : l.stackTraces = false) {D : va_G} {ad : Nat → Nat} {y : Nat → ClassId} {adE adK adV : Nat → Nat} {tkA swA : Nat} {sa : Nat → Nat} {m_out : Int32} {t_draft : Nat} {m_tlen : Int32} {a_bytes : Nat → Int32} {m_nsize : Int32} {m_drafted : Int32} {a_letters : Nat → Int32} {a_nlen : Nat → Int32} {t_texts : Nat → Nat} {m_here : Int32} {m_fkind : Int32} {m_fplace : Int32} {m_toks : Int32} {t_types : Nat → Nat} {a_starts : Nat → Int32} {a_tlens : Nat → Int32} {m_heard : Int32} {m_qsize : Int32} {m_wayKnown : Int32} {m_way : Int32} {m_qKnown : Int32} {m_lineKnown : Int32} {m_nodes : Int32} {m_lsize : Int32} {a_tails : Nat → Int32} {a_heads : Nat → Int32} {a_gaps : Nat → Int32} {a_least : Nat → Int32} {m_csize : Int32} {a_ctails : Nat → Int32} {a_cheads : Nat → Int32} {a_cgaps : Nat → Int32} {a_leftOut : Nat → Int32} {a_qrow : Nat → Int32} {a_line : Nat → Int32} {a_tsize : Nat → Int32} {t_word : Nat → Nat} {a_own : Nat → Int32} {a_oth : Nat → Int32} {a_fst : Nat → Int32} {a_snd : Nat → Int32} {a_plc : Nat → Int32} {p1 : Int32} {p2 : Int32} {p3 : Int32} {res : (Int32) ⊕ (Nat)} (hf : f_X11_saying t_texts a_tsize t_word a_own a_oth a_fst a_snd a_plc p1 p2 p3 = some res) : CTX l yX11_saying wsX11_saying rm_X11_saying D ad 124 (tyL y) (STX ad adE adK adV tkA swA sa) (eC ad adE y m_out t_draft m_tlen a_bytes m_nsize m_drafted a_letters a_nlen t_texts m_here m_fkind m_fplace m_toks t_types a_starts a_tlens m_heard m_qsize m_wayKnown m_way m_qKnown m_lineKnown m_nodes m_lsize a_tails a_heads a_gaps a_least m_csize a_ctails a_cheads a_cgaps a_leftOut a_qrow a_line a_tsize t_word a_own a_oth a_fst a_snd a_plc) [.ref (ad 0), .int p1, .int p2, .int p3] (rx_X11_saying ad y adE m_out t_draft m_tlen a_bytes m_nsize m_drafted a_letters a_nlen t_texts m_here m_fkind m_fplace m_toks t_types a_starts a_tlens m_heard m_qsize m_wayKnown m_way m_qKnown m_lineKnown m_nodes m_lsize a_tails a_heads a_gaps a_least m_csize a_ctails a_cheads a_cgaps a_leftOut a_qrow a_line a_tsize t_word a_own a_oth a_fst a_snd a_plc res) := by
  intro sz
  refine vx_ofW (cc := cX11_saying) (maxL := 5) (ret := (some .int)) (by decide) rfl ?_
  intro p e s m args below meth c s₁ B hml hno hv
  obtain ⟨rfl, hsz, hP, hK, hD0, hst⟩ := hv
  subst hsz
  have C0 : CXT wsX11_saying cX11_saying RX11 5 (some .int) D (tyL y) (STX ad adE adK adV tkA swA sa) p s m ([.ref (ad 0), .int p1, .int p2, .int p3] : List Value).toArray meth c ∧ (∀ x ∈ c.exceptionTable.toList, False) ∧ l.stackTraces = false := ⟨⟨B.exec, B.bytes, B.returns, hml, findClass_of_methodNamed B.named, atoms_spec (ws := wsX11_saying) B.pre, B.notSynchronized, hK, hst⟩, hno, htr⟩
  have hw := g_start (n := 124) eC_len hP hD0
  have hl := lv_entry ([.ref (ad 0), .int p1, .int p2, .int p3]) (n := 5) (Nat.le_of_ble_eq_true rfl)
  rw [lg_entry_eq]
  generalize (lg_sl ([.ref (ad 0), .int p1, .int p2, .int p3]) ++ List.replicate (5 - (lg_sl ([.ref (ad 0), .int p1, .int p2, .int p3])).length) Slot.unset).toArray = ls at hl ⊢
  have hl : lv_has ls 5 [(0, .ref (ad 0)), (1, .int p1), (2, .int p2), (3, .int p3)] := hl
  exact ke_X11_saying C0 hf hw hl
abbrev rm_X11_needless : Room := { frames := 6, cells := 1, slots := 6, locals := 110 }
abbrev rx_X11_needless (ad : Nat → Nat) (y : Nat → ClassId) (adE : Nat → Nat) (m_out : Int32) (t_draft : Nat) (m_tlen : Int32) (a_bytes : Nat → Int32) (m_nsize : Int32) (m_drafted : Int32) (a_letters : Nat → Int32) (a_nlen : Nat → Int32) (t_texts : Nat → Nat) (m_here : Int32) (m_fkind : Int32) (m_fplace : Int32) (m_toks : Int32) (t_types : Nat → Nat) (a_starts : Nat → Int32) (a_tlens : Nat → Int32) (m_heard : Int32) (m_qsize : Int32) (m_qKnown : Int32) (m_lineKnown : Int32) (a_qrow : Nat → Int32) (a_line : Nat → Int32) (a_tsize : Nat → Int32) (t_word : Nat → Nat) (a_own : Nat → Int32) (a_oth : Nat → Int32) (a_fst : Nat → Int32) (a_snd : Nat → Int32) (a_plc : Nat → Int32) (res : (Int32 × Int32 × Int32 × Int32 × Int32 × (Nat → Int32) × (Nat → Int32) × (Nat → Int32) × (Nat → Int32) × Int32 × (Nat → Int32) × (Nat → Int32) × (Nat → Int32) × (Nat → Int32)) ⊕ (Nat × Int32 × Int32 × Int32 × Int32 × (Nat → Int32) × (Nat → Int32) × (Nat → Int32) × (Nat → Int32) × Int32 × (Nat → Int32) × (Nat → Int32) × (Nat → Int32) × (Nat → Int32))) : ResX := match res with
  | .inl r => .inl (r.1, (eC ad adE y m_out t_draft m_tlen a_bytes m_nsize m_drafted a_letters a_nlen t_texts m_here m_fkind m_fplace m_toks t_types a_starts a_tlens m_heard m_qsize r.2.1 r.2.2.1 m_qKnown m_lineKnown r.2.2.2.1 r.2.2.2.2.1 r.2.2.2.2.2.1 r.2.2.2.2.2.2.1 r.2.2.2.2.2.2.2.1 r.2.2.2.2.2.2.2.2.1 r.2.2.2.2.2.2.2.2.2.1 r.2.2.2.2.2.2.2.2.2.2.1 r.2.2.2.2.2.2.2.2.2.2.2.1 r.2.2.2.2.2.2.2.2.2.2.2.2.1 r.2.2.2.2.2.2.2.2.2.2.2.2.2 a_qrow a_line a_tsize t_word a_own a_oth a_fst a_snd a_plc))
  | .inr r => .inr (exN r.1, (eC ad adE y m_out t_draft m_tlen a_bytes m_nsize m_drafted a_letters a_nlen t_texts m_here m_fkind m_fplace m_toks t_types a_starts a_tlens m_heard m_qsize r.2.1 r.2.2.1 m_qKnown m_lineKnown r.2.2.2.1 r.2.2.2.2.1 r.2.2.2.2.2.1 r.2.2.2.2.2.2.1 r.2.2.2.2.2.2.2.1 r.2.2.2.2.2.2.2.2.1 r.2.2.2.2.2.2.2.2.2.1 r.2.2.2.2.2.2.2.2.2.2.1 r.2.2.2.2.2.2.2.2.2.2.2.1 r.2.2.2.2.2.2.2.2.2.2.2.2.1 r.2.2.2.2.2.2.2.2.2.2.2.2.2 a_qrow a_line a_tsize t_word a_own a_oth a_fst a_snd a_plc))
abbrev QM_X11_needless (below : List Frame) (args : Array Value) (s : State) (D : va_G) (ad : Nat → Nat) (y : Nat → ClassId) (adE : Nat → Nat) (m_out : Int32) (t_draft : Nat) (m_tlen : Int32) (a_bytes : Nat → Int32) (m_nsize : Int32) (m_drafted : Int32) (a_letters : Nat → Int32) (a_nlen : Nat → Int32) (t_texts : Nat → Nat) (m_here : Int32) (m_fkind : Int32) (m_fplace : Int32) (m_toks : Int32) (t_types : Nat → Nat) (a_starts : Nat → Int32) (a_tlens : Nat → Int32) (m_heard : Int32) (m_qsize : Int32) (m_qKnown : Int32) (m_lineKnown : Int32) (a_qrow : Nat → Int32) (a_line : Nat → Int32) (a_tsize : Nat → Int32) (t_word : Nat → Nat) (a_own : Nat → Int32) (a_oth : Nat → Int32) (a_fst : Nat → Int32) (a_snd : Nat → Int32) (a_plc : Nat → Int32) (res : (Int32 × Int32 × Int32 × Int32 × Int32 × (Nat → Int32) × (Nat → Int32) × (Nat → Int32) × (Nat → Int32) × Int32 × (Nat → Int32) × (Nat → Int32) × (Nat → Int32) × (Nat → Int32)) ⊕ (Nat × Int32 × Int32 × Int32 × Int32 × (Nat → Int32) × (Nat → Int32) × (Nat → Int32) × (Nat → Int32) × Int32 × (Nat → Int32) × (Nat → Int32) × (Nat → Int32) × (Nat → Int32))) : State → Prop := vx_MQ below (QcX D ad 124 s.heap.size (rx_X11_needless ad y adE m_out t_draft m_tlen a_bytes m_nsize m_drafted a_letters a_nlen t_texts m_here m_fkind m_fplace m_toks t_types a_starts a_tlens m_heard m_qsize m_qKnown m_lineKnown a_qrow a_line a_tsize t_word a_own a_oth a_fst a_snd a_plc res)) (XcX D ad 124 s.heap.size (rx_X11_needless ad y adE m_out t_draft m_tlen a_bytes m_nsize m_drafted a_letters a_nlen t_texts m_here m_fkind m_fplace m_toks t_types a_starts a_tlens m_heard m_qsize m_qKnown m_lineKnown a_qrow a_line a_tsize t_word a_own a_oth a_fst a_snd a_plc res)) args s 1 6 (Aw ad 124 s.heap.size)
set_option maxRecDepth 100000 in
theorem kxX11_needless_1 : Cond.classLink RX11 67 exI ∈ wsX11_needless ∧ Cond.initialized exI ∈ wsX11_needless ∧ ∀ w ∈ (vx_atS RX11 71 exI thN).filter goodWord, w ∈ wsX11_needless := by decide +kernel
set_option maxHeartbeats 4000000 in
set_option maxRecDepth 100000 in
theorem ke_X11_needless {p : Program} {l : Launch} {e : Env} {s : State} {m : MethodId} {args : Array Value} {below : List Frame} {meth : Method} {c : Code} {D : va_G} {ad : Nat → Nat} {y : Nat → ClassId} {adE adK adV : Nat → Nat} {tkA swA : Nat} {sa : Nat → Nat} (C0 : CXT wsX11_needless cX11_needless RX11 3 (some .int) D (tyL y) (STX ad adE adK adV tkA swA sa) p s m args meth c ∧ (∀ x ∈ c.exceptionTable.toList, False) ∧ l.stackTraces = false) {m_out : Int32} {t_draft : Nat} {m_tlen : Int32} {a_bytes : Nat → Int32} {m_nsize : Int32} {m_drafted : Int32} {a_letters : Nat → Int32} {a_nlen : Nat → Int32} {t_texts : Nat → Nat} {m_here : Int32} {m_fkind : Int32} {m_fplace : Int32} {m_toks : Int32} {t_types : Nat → Nat} {a_starts : Nat → Int32} {a_tlens : Nat → Int32} {m_heard : Int32} {m_qsize : Int32} {m_wayKnown : Int32} {m_way : Int32} {m_qKnown : Int32} {m_lineKnown : Int32} {m_nodes : Int32} {m_lsize : Int32} {a_tails : Nat → Int32} {a_heads : Nat → Int32} {a_gaps : Nat → Int32} {a_least : Nat → Int32} {m_csize : Int32} {a_ctails : Nat → Int32} {a_cheads : Nat → Int32} {a_cgaps : Nat → Int32} {a_leftOut : Nat → Int32} {a_qrow : Nat → Int32} {a_line : Nat → Int32} {a_tsize : Nat → Int32} {t_word : Nat → Nat} {a_own : Nat → Int32} {a_oth : Nat → Int32} {a_fst : Nat → Int32} {a_snd : Nat → Int32} {a_plc : Nat → Int32} {p1 : Int32} {p2 : Int32} {res : (Int32 × Int32 × Int32 × Int32 × Int32 × (Nat → Int32) × (Nat → Int32) × (Nat → Int32) × (Nat → Int32) × Int32 × (Nat → Int32) × (Nat → Int32) × (Nat → Int32) × (Nat → Int32)) ⊕ (Nat × Int32 × Int32 × Int32 × Int32 × (Nat → Int32) × (Nat → Int32) × (Nat → Int32) × (Nat → Int32) × Int32 × (Nat → Int32) × (Nat → Int32) × (Nat → Int32) × (Nat → Int32))} (hf : f_X11_needless m_nsize t_texts m_heard m_wayKnown m_way m_nodes m_lsize a_tails a_heads a_gaps a_least m_csize a_ctails a_cheads a_cgaps a_leftOut a_tsize t_word a_own a_oth a_fst a_snd p1 p2 = some res) {H : Heap} {locs : List Loc} {ls : Array Slot} (hw : Wo D ad (Aw ad 124 s.heap.size) (eC ad adE y m_out t_draft m_tlen a_bytes m_nsize m_drafted a_letters a_nlen t_texts m_here m_fkind m_fplace m_toks t_types a_starts a_tlens m_heard m_qsize m_wayKnown m_way m_qKnown m_lineKnown m_nodes m_lsize a_tails a_heads a_gaps a_least m_csize a_ctails a_cheads a_cgaps a_leftOut a_qrow a_line a_tsize t_word a_own a_oth a_fst a_snd a_plc) s.heap H locs) (hl : lv_has ls 3 [(0, .ref (ad 0)), (1, .int p1), (2, .int p2)]) : W p l e rm_X11_needless s m args below meth c H locs 0 0 (QM_X11_needless below args s D ad y adE (m_out) (t_draft) (m_tlen) (a_bytes) (m_nsize) (m_drafted) (a_letters) (a_nlen) (t_texts) (m_here) (m_fkind) (m_fplace) (m_toks) (t_types) (a_starts) (a_tlens) (m_heard) (m_qsize) (m_qKnown) (m_lineKnown) (a_qrow) (a_line) (a_tsize) (t_word) (a_own) (a_oth) (a_fst) (a_snd) (a_plc) res) (F0 m 0 ls []) := by
  obtain ⟨⟨hx, hb, hr, hml, hown, hts, hlocks, hK, hsx⟩, hno, htr⟩ := id C0
  have hst := hsx.1
  have hk_1 := kxX11_needless_1
  have i_X11 : ∀ w ∈ u_ws RX11 TX11 7, w ∈ wsX11_needless := by decide +kernel
  have L_25 := hts (.fieldLink RX11 25 "CaseOrder" "texts" "[LCaseOrder$Text;") (by decide +kernel)
  have L_48 := hts (.fieldLink RX11 48 "CaseOrder" "hearing" "LCaseOrder$Hearing;") (by decide +kernel)
  unfold f_X11_needless at hf
  refine lv_iload_n hx hb dX11_needless_0 rfl (lv_at hl 1 rfl) ?_
  obtain ⟨q8, hq8, hf⟩ := bd hf
  refine g_Si (As := [.int p1]) (rest := []) ⟨hx, hb, hml, hown, hts⟩ (k_X11_isTeller hq8) (va_cwS 1 hts gX11_needless_X11_isTeller rfl rfl rfl (by decide +kernel) ⟨Nat.le_of_ble_eq_true rfl, Nat.le_of_ble_eq_true rfl⟩) STC_ok hst hK hw (eC_len.trans eC_len.symm) rfl hl.1 rfl (Nat.le_of_ble_eq_true rfl) dX11_needless_1 ⟨Nat.zero_le _, Nat.zero_le _⟩ (fun H locs hw => ?_)
  refine lv_if_ne (tgt := 17) hx hb dX11_needless_4 (by decide) (fun c9 => ?_) (fun c9 => ?_)
  · have hf := it_n c9 hf
    refine lv_aload_n hx hb dX11_needless_17 rfl (lv_at hl 0 rfl) ?_
    refine g_get hx hb hts i_X11 hown hK hw 0 eC_c0 rfl 2 (by decide) L_25 (fun _ h => h) rfl dX11_needless_18 ?_
    refine lv_iload_n hx hb dX11_needless_21 rfl (lv_at hl 1 rfl) ?_
    obtain ⟨g10, hf⟩ := gIn_some hf
    refine g_aald hx hb hK hw 6 4 eC_c6 rfl g10 dX11_needless_22 rfl ?_
    refine lv_iload_n hx hb dX11_needless_23 rfl (lv_at hl 2 rfl) ?_
    obtain ⟨g11, hf⟩ := gN_some hf
    obtain ⟨q12, hq12, hf⟩ := bd hf
    refine g_Vi (As := [.int p2]) (rest := []) ⟨hx, hb, hml, hown, hts⟩ (k_X8_has hq12) (cwV 1 hts gX11_needless_X8_has rfl rfl rfl (by decide +kernel) ⟨Nat.le_of_ble_eq_true rfl, Nat.le_of_ble_eq_true rfl⟩) STC_ok hst hK hw (eC_len.trans eC_len.symm) (eC_T g11) rfl rfl hl.1 rfl (Nat.le_of_ble_eq_true rfl) dX11_needless_24 ⟨Nat.zero_le _, Nat.zero_le _⟩ (fun H locs hw => ?_)
    refine lv_if_eq (tgt := 51) hx hb dX11_needless_27 (by decide) (fun c13 => ?_) (fun c13 => ?_)
    · have hf := it_p c13 hf
      refine lv_iconst (v := (-1)) hx hb dX11_needless_51 (by decide) ?_
      obtain rfl := so hf
      exact g_retX hx hb hr hlocks hw dX11_needless_52 rfl
    · have hf := it_n c13 hf
      refine lv_aload_n hx hb dX11_needless_30 rfl (lv_at hl 0 rfl) ?_
      refine g_get hx hb hts i_X11 hown hK hw 0 eC_c0 rfl 4 (by decide) L_48 (fun _ h => h) rfl dX11_needless_31 ?_
      refine lv_iload_n hx hb dX11_needless_34 rfl (lv_at hl 1 rfl) ?_
      obtain ⟨q14, hq14, hf⟩ := bd hf
      refine g_Vi (As := [.int p1]) (rest := []) ⟨hx, hb, hml, hown, hts⟩ (k_X1_hears hq14) (cwV 1 hts gX11_needless_X1_hears rfl rfl rfl (by decide +kernel) ⟨Nat.le_of_ble_eq_true rfl, Nat.le_of_ble_eq_true rfl⟩) STC_ok hst hK hw (eC_len.trans eC_len.symm) eC_c12 rfl rfl hl.1 rfl (Nat.le_of_ble_eq_true rfl) dX11_needless_35 ⟨Nat.zero_le _, Nat.zero_le _⟩ (fun H locs hw => ?_)
      refine lv_if_eq (tgt := 51) hx hb dX11_needless_38 (by decide) (fun c15 => ?_) (fun c15 => ?_)
      · have hf := it_p c15 hf
        refine lv_iconst (v := (-1)) hx hb dX11_needless_51 (by decide) ?_
        obtain rfl := so hf
        exact g_retX hx hb hr hlocks hw dX11_needless_52 rfl
      · have hf := it_n c15 hf
        refine lv_aload_n hx hb dX11_needless_41 rfl (lv_at hl 0 rfl) ?_
        refine g_get hx hb hts i_X11 hown hK hw 0 eC_c0 rfl 4 (by decide) L_48 (fun _ h => h) rfl dX11_needless_42 ?_
        obtain ⟨q16, hq16, hf⟩ := bd hf
        refine g_Vi (As := []) (rest := []) ⟨hx, hb, hml, hown, hts⟩ (k_X1_hasWay hq16) (cwV 0 hts gX11_needless_X1_hasWay rfl rfl rfl (by decide +kernel) ⟨Nat.le_of_ble_eq_true rfl, Nat.le_of_ble_eq_true rfl⟩) STC_ok hst hK hw (eC_len.trans eC_len.symm) eC_c12 rfl rfl hl.1 rfl (Nat.le_of_ble_eq_true rfl) dX11_needless_45 ⟨Nat.zero_le _, Nat.zero_le _⟩ (fun H locs hw => ?_)
        have hw : Wo D ad (Aw ad 124 s.heap.size) (eC ad adE y m_out t_draft m_tlen a_bytes m_nsize m_drafted a_letters a_nlen t_texts m_here m_fkind m_fplace m_toks t_types a_starts a_tlens m_heard m_qsize q16.2.1 q16.2.2.1 m_qKnown m_lineKnown q16.2.2.2.1 q16.2.2.2.2.1 q16.2.2.2.2.2.1 q16.2.2.2.2.2.2.1 q16.2.2.2.2.2.2.2.1 q16.2.2.2.2.2.2.2.2 m_csize a_ctails a_cheads a_cgaps a_leftOut a_qrow a_line a_tsize t_word a_own a_oth a_fst a_snd a_plc) s.heap H locs := hw
        refine lv_if_ne (tgt := 53) hx hb dX11_needless_48 (by decide) (fun c17 => ?_) (fun c17 => ?_)
        · have hf := it_n c17 hf
          refine lv_aload_n hx hb dX11_needless_53 rfl (lv_at hl 0 rfl) ?_
          refine g_get hx hb hts i_X11 hown hK hw 0 eC_c0 rfl 4 (by decide) L_48 (fun _ h => h) rfl dX11_needless_54 ?_
          refine lv_iload_n hx hb dX11_needless_57 rfl (lv_at hl 1 rfl) ?_
          refine lv_iload_n hx hb dX11_needless_58 rfl (lv_at hl 2 rfl) ?_
          obtain ⟨q18, hq18, hf⟩ := bd hf
          refine g_Vi (As := [.int p1, .int p2]) (rest := []) ⟨hx, hb, hml, hown, hts⟩ (k_X1_followsFromOthers hq18) (cwV 2 hts gX11_needless_X1_followsFromOthers rfl rfl rfl (by decide +kernel) ⟨Nat.le_of_ble_eq_true rfl, Nat.le_of_ble_eq_true rfl⟩) STC_ok hst hK hw (eC_len.trans eC_len.symm) eC_c12 rfl rfl hl.1 rfl (Nat.le_of_ble_eq_true rfl) dX11_needless_59 ⟨Nat.zero_le _, Nat.zero_le _⟩ (fun H locs hw => ?_)
          have hw : Wo D ad (Aw ad 124 s.heap.size) (eC ad adE y m_out t_draft m_tlen a_bytes m_nsize m_drafted a_letters a_nlen t_texts m_here m_fkind m_fplace m_toks t_types a_starts a_tlens m_heard m_qsize q16.2.1 q16.2.2.1 m_qKnown m_lineKnown q18.2.1 q18.2.2.1 q18.2.2.2.1 q18.2.2.2.2.1 q18.2.2.2.2.2.1 q18.2.2.2.2.2.2.1 q18.2.2.2.2.2.2.2.1 q18.2.2.2.2.2.2.2.2.1 q18.2.2.2.2.2.2.2.2.2.1 q18.2.2.2.2.2.2.2.2.2.2.1 q18.2.2.2.2.2.2.2.2.2.2.2 a_qrow a_line a_tsize t_word a_own a_oth a_fst a_snd a_plc) s.heap H locs := hw
          refine lv_if_eq (tgt := 69) hx hb dX11_needless_62 (by decide) (fun c19 => ?_) (fun c19 => ?_)
          · have hf := it_p c19 hf
            refine lv_iconst (v := 0) hx hb dX11_needless_69 (by decide) ?_
            obtain rfl := so hf
            exact g_retX hx hb hr hlocks hw dX11_needless_70 rfl
          · have hf := it_n c19 hf
            refine lv_iconst (v := 1) hx hb dX11_needless_65 (by decide) ?_
            refine lv_goto (tgt := 70) hx hb dX11_needless_66 (by decide) ?_
            obtain rfl := so hf
            exact g_retX hx hb hr hlocks hw dX11_needless_70 rfl
        · have hf := it_p c17 hf
          refine lv_iconst (v := (-1)) hx hb dX11_needless_51 (by decide) ?_
          obtain rfl := so hf
          exact g_retX hx hb hr hlocks hw dX11_needless_52 rfl
  · have hf := it_p c9 hf
    obtain rfl := so hf
    exact g_thr (ws := wsX11_needless) (ik := 67) (ic := 71) (E := exI) 0 (by decide) hx hb htr hown hlocks hno hts (Or.inl ⟨rfl, rfl, rfl⟩) hk_1.1 hk_1.2.1 hk_1.2.2 hsx hw (hl.1.trans hml.symm) dX11_needless_7 dX11_needless_10 dX11_needless_11 dX11_needless_13 dX11_needless_16 ⟨by decide, by decide, by decide, by decide⟩
set_option maxHeartbeats 4000000 in
theorem k_X11_needless {l : Launch} (htr : l.stackTraces = false) {D : va_G} {ad : Nat → Nat} {y : Nat → ClassId} {adE adK adV : Nat → Nat} {tkA swA : Nat} {sa : Nat → Nat} {m_out : Int32} {t_draft : Nat} {m_tlen : Int32} {a_bytes : Nat → Int32} {m_nsize : Int32} {m_drafted : Int32} {a_letters : Nat → Int32} {a_nlen : Nat → Int32} {t_texts : Nat → Nat} {m_here : Int32} {m_fkind : Int32} {m_fplace : Int32} {m_toks : Int32} {t_types : Nat → Nat} {a_starts : Nat → Int32} {a_tlens : Nat → Int32} {m_heard : Int32} {m_qsize : Int32} {m_wayKnown : Int32} {m_way : Int32} {m_qKnown : Int32} {m_lineKnown : Int32} {m_nodes : Int32} {m_lsize : Int32} {a_tails : Nat → Int32} {a_heads : Nat → Int32} {a_gaps : Nat → Int32} {a_least : Nat → Int32} {m_csize : Int32} {a_ctails : Nat → Int32} {a_cheads : Nat → Int32} {a_cgaps : Nat → Int32} {a_leftOut : Nat → Int32} {a_qrow : Nat → Int32} {a_line : Nat → Int32} {a_tsize : Nat → Int32} {t_word : Nat → Nat} {a_own : Nat → Int32} {a_oth : Nat → Int32} {a_fst : Nat → Int32} {a_snd : Nat → Int32} {a_plc : Nat → Int32} {p1 : Int32} {p2 : Int32} {res : (Int32 × Int32 × Int32 × Int32 × Int32 × (Nat → Int32) × (Nat → Int32) × (Nat → Int32) × (Nat → Int32) × Int32 × (Nat → Int32) × (Nat → Int32) × (Nat → Int32) × (Nat → Int32)) ⊕ (Nat × Int32 × Int32 × Int32 × Int32 × (Nat → Int32) × (Nat → Int32) × (Nat → Int32) × (Nat → Int32) × Int32 × (Nat → Int32) × (Nat → Int32) × (Nat → Int32) × (Nat → Int32))} (hf : f_X11_needless m_nsize t_texts m_heard m_wayKnown m_way m_nodes m_lsize a_tails a_heads a_gaps a_least m_csize a_ctails a_cheads a_cgaps a_leftOut a_tsize t_word a_own a_oth a_fst a_snd p1 p2 = some res) : CTX l yX11_needless wsX11_needless rm_X11_needless D ad 124 (tyL y) (STX ad adE adK adV tkA swA sa) (eC ad adE y m_out t_draft m_tlen a_bytes m_nsize m_drafted a_letters a_nlen t_texts m_here m_fkind m_fplace m_toks t_types a_starts a_tlens m_heard m_qsize m_wayKnown m_way m_qKnown m_lineKnown m_nodes m_lsize a_tails a_heads a_gaps a_least m_csize a_ctails a_cheads a_cgaps a_leftOut a_qrow a_line a_tsize t_word a_own a_oth a_fst a_snd a_plc) [.ref (ad 0), .int p1, .int p2] (rx_X11_needless ad y adE m_out t_draft m_tlen a_bytes m_nsize m_drafted a_letters a_nlen t_texts m_here m_fkind m_fplace m_toks t_types a_starts a_tlens m_heard m_qsize m_qKnown m_lineKnown a_qrow a_line a_tsize t_word a_own a_oth a_fst a_snd a_plc res) := by
  intro sz
  refine vx_ofW (cc := cX11_needless) (maxL := 3) (ret := (some .int)) (by decide) rfl ?_
  intro p e s m args below meth c s₁ B hml hno hv
  obtain ⟨rfl, hsz, hP, hK, hD0, hst⟩ := hv
  subst hsz
  have C0 : CXT wsX11_needless cX11_needless RX11 3 (some .int) D (tyL y) (STX ad adE adK adV tkA swA sa) p s m ([.ref (ad 0), .int p1, .int p2] : List Value).toArray meth c ∧ (∀ x ∈ c.exceptionTable.toList, False) ∧ l.stackTraces = false := ⟨⟨B.exec, B.bytes, B.returns, hml, findClass_of_methodNamed B.named, atoms_spec (ws := wsX11_needless) B.pre, B.notSynchronized, hK, hst⟩, hno, htr⟩
  have hw := g_start (n := 124) eC_len hP hD0
  have hl := lv_entry ([.ref (ad 0), .int p1, .int p2]) (n := 3) (Nat.le_of_ble_eq_true rfl)
  rw [lg_entry_eq]
  generalize (lg_sl ([.ref (ad 0), .int p1, .int p2]) ++ List.replicate (3 - (lg_sl ([.ref (ad 0), .int p1, .int p2])).length) Slot.unset).toArray = ls at hl ⊢
  have hl : lv_has ls 3 [(0, .ref (ad 0)), (1, .int p1), (2, .int p2)] := hl
  exact ke_X11_needless C0 hf hw hl
abbrev rm_X11_between : Room := { frames := 6, cells := 1, slots := 6, locals := 113 }
abbrev rx_X11_between (ad : Nat → Nat) (y : Nat → ClassId) (adE : Nat → Nat) (m_out : Int32) (t_draft : Nat) (m_tlen : Int32) (a_bytes : Nat → Int32) (m_nsize : Int32) (m_drafted : Int32) (a_letters : Nat → Int32) (a_nlen : Nat → Int32) (t_texts : Nat → Nat) (m_here : Int32) (m_fkind : Int32) (m_fplace : Int32) (m_toks : Int32) (t_types : Nat → Nat) (a_starts : Nat → Int32) (a_tlens : Nat → Int32) (m_heard : Int32) (m_qsize : Int32) (m_qKnown : Int32) (m_lineKnown : Int32) (m_csize : Int32) (a_ctails : Nat → Int32) (a_cheads : Nat → Int32) (a_cgaps : Nat → Int32) (a_leftOut : Nat → Int32) (a_qrow : Nat → Int32) (a_line : Nat → Int32) (a_tsize : Nat → Int32) (t_word : Nat → Nat) (a_own : Nat → Int32) (a_oth : Nat → Int32) (a_fst : Nat → Int32) (a_snd : Nat → Int32) (a_plc : Nat → Int32) (res : (Int32 × Int32 × Int32 × Int32 × Int32 × (Nat → Int32) × (Nat → Int32) × (Nat → Int32) × (Nat → Int32)) ⊕ (Nat × Int32 × Int32 × Int32 × Int32 × (Nat → Int32) × (Nat → Int32) × (Nat → Int32) × (Nat → Int32))) : ResX := match res with
  | .inl r => .inl (r.1, (eC ad adE y m_out t_draft m_tlen a_bytes m_nsize m_drafted a_letters a_nlen t_texts m_here m_fkind m_fplace m_toks t_types a_starts a_tlens m_heard m_qsize r.2.1 r.2.2.1 m_qKnown m_lineKnown r.2.2.2.1 r.2.2.2.2.1 r.2.2.2.2.2.1 r.2.2.2.2.2.2.1 r.2.2.2.2.2.2.2.1 r.2.2.2.2.2.2.2.2 m_csize a_ctails a_cheads a_cgaps a_leftOut a_qrow a_line a_tsize t_word a_own a_oth a_fst a_snd a_plc))
  | .inr r => .inr (exN r.1, (eC ad adE y m_out t_draft m_tlen a_bytes m_nsize m_drafted a_letters a_nlen t_texts m_here m_fkind m_fplace m_toks t_types a_starts a_tlens m_heard m_qsize r.2.1 r.2.2.1 m_qKnown m_lineKnown r.2.2.2.1 r.2.2.2.2.1 r.2.2.2.2.2.1 r.2.2.2.2.2.2.1 r.2.2.2.2.2.2.2.1 r.2.2.2.2.2.2.2.2 m_csize a_ctails a_cheads a_cgaps a_leftOut a_qrow a_line a_tsize t_word a_own a_oth a_fst a_snd a_plc))
abbrev QM_X11_between (below : List Frame) (args : Array Value) (s : State) (D : va_G) (ad : Nat → Nat) (y : Nat → ClassId) (adE : Nat → Nat) (m_out : Int32) (t_draft : Nat) (m_tlen : Int32) (a_bytes : Nat → Int32) (m_nsize : Int32) (m_drafted : Int32) (a_letters : Nat → Int32) (a_nlen : Nat → Int32) (t_texts : Nat → Nat) (m_here : Int32) (m_fkind : Int32) (m_fplace : Int32) (m_toks : Int32) (t_types : Nat → Nat) (a_starts : Nat → Int32) (a_tlens : Nat → Int32) (m_heard : Int32) (m_qsize : Int32) (m_qKnown : Int32) (m_lineKnown : Int32) (m_csize : Int32) (a_ctails : Nat → Int32) (a_cheads : Nat → Int32) (a_cgaps : Nat → Int32) (a_leftOut : Nat → Int32) (a_qrow : Nat → Int32) (a_line : Nat → Int32) (a_tsize : Nat → Int32) (t_word : Nat → Nat) (a_own : Nat → Int32) (a_oth : Nat → Int32) (a_fst : Nat → Int32) (a_snd : Nat → Int32) (a_plc : Nat → Int32) (res : (Int32 × Int32 × Int32 × Int32 × Int32 × (Nat → Int32) × (Nat → Int32) × (Nat → Int32) × (Nat → Int32)) ⊕ (Nat × Int32 × Int32 × Int32 × Int32 × (Nat → Int32) × (Nat → Int32) × (Nat → Int32) × (Nat → Int32))) : State → Prop := vx_MQ below (QcX D ad 124 s.heap.size (rx_X11_between ad y adE m_out t_draft m_tlen a_bytes m_nsize m_drafted a_letters a_nlen t_texts m_here m_fkind m_fplace m_toks t_types a_starts a_tlens m_heard m_qsize m_qKnown m_lineKnown m_csize a_ctails a_cheads a_cgaps a_leftOut a_qrow a_line a_tsize t_word a_own a_oth a_fst a_snd a_plc res)) (XcX D ad 124 s.heap.size (rx_X11_between ad y adE m_out t_draft m_tlen a_bytes m_nsize m_drafted a_letters a_nlen t_texts m_here m_fkind m_fplace m_toks t_types a_starts a_tlens m_heard m_qsize m_qKnown m_lineKnown m_csize a_ctails a_cheads a_cgaps a_leftOut a_qrow a_line a_tsize t_word a_own a_oth a_fst a_snd a_plc res)) args s 1 6 (Aw ad 124 s.heap.size)
set_option maxRecDepth 100000 in
theorem kxX11_between_2 : Cond.classLink RX11 96 exS ∈ wsX11_between ∧ Cond.initialized exS ∈ wsX11_between ∧ ∀ w ∈ (vx_atX RX11 100 exS 13 prog_25_method_4_code thN).filter goodWord, w ∈ wsX11_between := by decide +kernel
set_option maxHeartbeats 4000000 in
set_option maxRecDepth 100000 in
theorem kb_X11_between_b22 {p : Program} {l : Launch} {e : Env} {s : State} {m : MethodId} {args : Array Value} {below : List Frame} {meth : Method} {c : Code} {D : va_G} {ad : Nat → Nat} {y : Nat → ClassId} {adE adK adV : Nat → Nat} {tkA swA : Nat} {sa : Nat → Nat} (C0 : CXT wsX11_between cX11_between RX11 4 (some .int) D (tyL y) (STX ad adE adK adV tkA swA sa) p s m args meth c ∧ (∀ x ∈ c.exceptionTable.toList, False) ∧ l.stackTraces = false) {m_out : Int32} {t_draft : Nat} {m_tlen : Int32} {a_bytes : Nat → Int32} {m_nsize : Int32} {m_drafted : Int32} {a_letters : Nat → Int32} {a_nlen : Nat → Int32} {t_texts : Nat → Nat} {m_here : Int32} {m_fkind : Int32} {m_fplace : Int32} {m_toks : Int32} {t_types : Nat → Nat} {a_starts : Nat → Int32} {a_tlens : Nat → Int32} {m_heard : Int32} {m_qsize : Int32} {m_wayKnown : Int32} {m_way : Int32} {m_qKnown : Int32} {m_lineKnown : Int32} {m_nodes : Int32} {m_lsize : Int32} {a_tails : Nat → Int32} {a_heads : Nat → Int32} {a_gaps : Nat → Int32} {a_least : Nat → Int32} {m_csize : Int32} {a_ctails : Nat → Int32} {a_cheads : Nat → Int32} {a_cgaps : Nat → Int32} {a_leftOut : Nat → Int32} {a_qrow : Nat → Int32} {a_line : Nat → Int32} {a_tsize : Nat → Int32} {t_word : Nat → Nat} {a_own : Nat → Int32} {a_oth : Nat → Int32} {a_fst : Nat → Int32} {a_snd : Nat → Int32} {a_plc : Nat → Int32}    {res : (Int32 × Int32 × Int32 × Int32 × Int32 × (Nat → Int32) × (Nat → Int32) × (Nat → Int32) × (Nat → Int32)) ⊕ (Nat × Int32 × Int32 × Int32 × Int32 × (Nat → Int32) × (Nat → Int32) × (Nat → Int32) × (Nat → Int32))} (hf : f_X11_between_b22 m_nsize t_texts m_heard m_wayKnown m_way m_nodes m_lsize a_tails a_heads a_gaps a_least a_leftOut a_tsize t_word a_own a_oth a_fst a_snd = some res) {H : Heap} {locs : List Loc} {ls : Array Slot} (hw : Wo D ad (Aw ad 124 s.heap.size) (eC ad adE y m_out t_draft m_tlen a_bytes m_nsize m_drafted a_letters a_nlen t_texts m_here m_fkind m_fplace m_toks t_types a_starts a_tlens m_heard m_qsize m_wayKnown m_way m_qKnown m_lineKnown m_nodes m_lsize a_tails a_heads a_gaps a_least m_csize a_ctails a_cheads a_cgaps a_leftOut a_qrow a_line a_tsize t_word a_own a_oth a_fst a_snd a_plc) s.heap H locs) (hl : lv_has ls 4 []) : W p l e rm_X11_between s m args below meth c H locs 0 0 (QM_X11_between below args s D ad y adE (m_out) (t_draft) (m_tlen) (a_bytes) (m_nsize) (m_drafted) (a_letters) (a_nlen) (t_texts) (m_here) (m_fkind) (m_fplace) (m_toks) (t_types) (a_starts) (a_tlens) (m_heard) (m_qsize) (m_qKnown) (m_lineKnown) (m_csize) (a_ctails) (a_cheads) (a_cgaps) (a_leftOut) (a_qrow) (a_line) (a_tsize) (t_word) (a_own) (a_oth) (a_fst) (a_snd) (a_plc) res) (F0 m 22 ls []) := by
  obtain ⟨⟨hx, hb, hr, hml, hown, hts, hlocks, hK, hsx⟩, hno, htr⟩ := id C0
  have hst := hsx.1
  have hk_2 := kxX11_between_2
  unfold f_X11_between_b22 at hf
  obtain rfl := so hf
  exact g_thrN (ws := wsX11_between) 4 (by decide) hx hb htr hown hlocks hno hts hk_2.1 hk_2.2.1 hk_2.2.2 hsx hw (hl.1.trans hml.symm) dX11_between_22 dX11_between_25 dX11_between_26 dX11_between_28 dX11_between_31 ⟨by decide, by decide, by decide, by decide⟩
set_option maxHeartbeats 4000000 in
set_option maxRecDepth 100000 in
theorem ke_X11_between {p : Program} {l : Launch} {e : Env} {s : State} {m : MethodId} {args : Array Value} {below : List Frame} {meth : Method} {c : Code} {D : va_G} {ad : Nat → Nat} {y : Nat → ClassId} {adE adK adV : Nat → Nat} {tkA swA : Nat} {sa : Nat → Nat} (C0 : CXT wsX11_between cX11_between RX11 4 (some .int) D (tyL y) (STX ad adE adK adV tkA swA sa) p s m args meth c ∧ (∀ x ∈ c.exceptionTable.toList, False) ∧ l.stackTraces = false) {m_out : Int32} {t_draft : Nat} {m_tlen : Int32} {a_bytes : Nat → Int32} {m_nsize : Int32} {m_drafted : Int32} {a_letters : Nat → Int32} {a_nlen : Nat → Int32} {t_texts : Nat → Nat} {m_here : Int32} {m_fkind : Int32} {m_fplace : Int32} {m_toks : Int32} {t_types : Nat → Nat} {a_starts : Nat → Int32} {a_tlens : Nat → Int32} {m_heard : Int32} {m_qsize : Int32} {m_wayKnown : Int32} {m_way : Int32} {m_qKnown : Int32} {m_lineKnown : Int32} {m_nodes : Int32} {m_lsize : Int32} {a_tails : Nat → Int32} {a_heads : Nat → Int32} {a_gaps : Nat → Int32} {a_least : Nat → Int32} {m_csize : Int32} {a_ctails : Nat → Int32} {a_cheads : Nat → Int32} {a_cgaps : Nat → Int32} {a_leftOut : Nat → Int32} {a_qrow : Nat → Int32} {a_line : Nat → Int32} {a_tsize : Nat → Int32} {t_word : Nat → Nat} {a_own : Nat → Int32} {a_oth : Nat → Int32} {a_fst : Nat → Int32} {a_snd : Nat → Int32} {a_plc : Nat → Int32} {p1 : Int32} {p2 : Int32} {p3 : Int32} {res : (Int32 × Int32 × Int32 × Int32 × Int32 × (Nat → Int32) × (Nat → Int32) × (Nat → Int32) × (Nat → Int32)) ⊕ (Nat × Int32 × Int32 × Int32 × Int32 × (Nat → Int32) × (Nat → Int32) × (Nat → Int32) × (Nat → Int32))} (hf : f_X11_between m_nsize t_texts m_heard m_wayKnown m_way m_nodes m_lsize a_tails a_heads a_gaps a_least a_leftOut a_tsize t_word a_own a_oth a_fst a_snd p1 p2 p3 = some res) {H : Heap} {locs : List Loc} {ls : Array Slot} (hw : Wo D ad (Aw ad 124 s.heap.size) (eC ad adE y m_out t_draft m_tlen a_bytes m_nsize m_drafted a_letters a_nlen t_texts m_here m_fkind m_fplace m_toks t_types a_starts a_tlens m_heard m_qsize m_wayKnown m_way m_qKnown m_lineKnown m_nodes m_lsize a_tails a_heads a_gaps a_least m_csize a_ctails a_cheads a_cgaps a_leftOut a_qrow a_line a_tsize t_word a_own a_oth a_fst a_snd a_plc) s.heap H locs) (hl : lv_has ls 4 [(0, .ref (ad 0)), (1, .int p1), (2, .int p2), (3, .int p3)]) : W p l e rm_X11_between s m args below meth c H locs 0 0 (QM_X11_between below args s D ad y adE (m_out) (t_draft) (m_tlen) (a_bytes) (m_nsize) (m_drafted) (a_letters) (a_nlen) (t_texts) (m_here) (m_fkind) (m_fplace) (m_toks) (t_types) (a_starts) (a_tlens) (m_heard) (m_qsize) (m_qKnown) (m_lineKnown) (m_csize) (a_ctails) (a_cheads) (a_cgaps) (a_leftOut) (a_qrow) (a_line) (a_tsize) (t_word) (a_own) (a_oth) (a_fst) (a_snd) (a_plc) res) (F0 m 0 ls []) := by
  obtain ⟨⟨hx, hb, hr, hml, hown, hts, hlocks, hK, hsx⟩, hno, htr⟩ := id C0
  have hst := hsx.1
  have hk_2 := kxX11_between_2
  have i_X11 : ∀ w ∈ u_ws RX11 TX11 7, w ∈ wsX11_between := by decide +kernel
  have L_19 := hts (.fieldLink RX11 19 "CaseOrder" "names" "LCaseOrder$Names;") (by decide +kernel)
  have L_48 := hts (.fieldLink RX11 48 "CaseOrder" "hearing" "LCaseOrder$Hearing;") (by decide +kernel)
  unfold f_X11_between at hf
  refine lv_aload_n hx hb dX11_between_0 rfl (lv_at hl 0 rfl) ?_
  refine g_get hx hb hts i_X11 hown hK hw 0 eC_c0 rfl 1 (by decide) L_19 (fun _ h => h) rfl dX11_between_1 ?_
  refine lv_iload_n hx hb dX11_between_4 rfl (lv_at hl 1 rfl) ?_
  obtain ⟨q10, hq10, hf⟩ := bd hf
  refine g_Vi (As := [.int p1]) (rest := []) ⟨hx, hb, hml, hown, hts⟩ (k_X3_has hq10) (cwV 1 hts gX11_between_X3_has rfl rfl rfl (by decide +kernel) ⟨Nat.le_of_ble_eq_true rfl, Nat.le_of_ble_eq_true rfl⟩) STC_ok hst hK hw (eC_len.trans eC_len.symm) eC_c3 rfl rfl hl.1 rfl (Nat.le_of_ble_eq_true rfl) dX11_between_5 ⟨Nat.zero_le _, Nat.zero_le _⟩ (fun H locs hw => ?_)
  refine lv_if_eq (tgt := 22) hx hb dX11_between_8 (by decide) (fun c11 => ?_) (fun c11 => ?_)
  · have hf := it_p c11 hf
    exact kb_X11_between_b22 C0 hf hw (lv_sub hl [] rfl)
  · have hf := it_n c11 hf
    refine lv_aload_n hx hb dX11_between_11 rfl (lv_at hl 0 rfl) ?_
    refine g_get hx hb hts i_X11 hown hK hw 0 eC_c0 rfl 1 (by decide) L_19 (fun _ h => h) rfl dX11_between_12 ?_
    refine lv_iload_n hx hb dX11_between_15 rfl (lv_at hl 2 rfl) ?_
    obtain ⟨q12, hq12, hf⟩ := bd hf
    refine g_Vi (As := [.int p2]) (rest := []) ⟨hx, hb, hml, hown, hts⟩ (k_X3_has hq12) (cwV 1 hts gX11_between_X3_has rfl rfl rfl (by decide +kernel) ⟨Nat.le_of_ble_eq_true rfl, Nat.le_of_ble_eq_true rfl⟩) STC_ok hst hK hw (eC_len.trans eC_len.symm) eC_c3 rfl rfl hl.1 rfl (Nat.le_of_ble_eq_true rfl) dX11_between_16 ⟨Nat.zero_le _, Nat.zero_le _⟩ (fun H locs hw => ?_)
    refine lv_if_ne (tgt := 32) hx hb dX11_between_19 (by decide) (fun c13 => ?_) (fun c13 => ?_)
    · have hf := it_n c13 hf
      refine lv_aload_n hx hb dX11_between_32 rfl (lv_at hl 0 rfl) ?_
      refine g_get hx hb hts i_X11 hown hK hw 0 eC_c0 rfl 4 (by decide) L_48 (fun _ h => h) rfl dX11_between_33 ?_
      obtain ⟨q14, hq14, hf⟩ := bd hf
      refine g_Vi (As := []) (rest := []) ⟨hx, hb, hml, hown, hts⟩ (k_X1_hasWay hq14) (cwV 0 hts gX11_between_X1_hasWay rfl rfl rfl (by decide +kernel) ⟨Nat.le_of_ble_eq_true rfl, Nat.le_of_ble_eq_true rfl⟩) STC_ok hst hK hw (eC_len.trans eC_len.symm) eC_c12 rfl rfl hl.1 rfl (Nat.le_of_ble_eq_true rfl) dX11_between_36 ⟨Nat.zero_le _, Nat.zero_le _⟩ (fun H locs hw => ?_)
      have hw : Wo D ad (Aw ad 124 s.heap.size) (eC ad adE y m_out t_draft m_tlen a_bytes m_nsize m_drafted a_letters a_nlen t_texts m_here m_fkind m_fplace m_toks t_types a_starts a_tlens m_heard m_qsize q14.2.1 q14.2.2.1 m_qKnown m_lineKnown q14.2.2.2.1 q14.2.2.2.2.1 q14.2.2.2.2.2.1 q14.2.2.2.2.2.2.1 q14.2.2.2.2.2.2.2.1 q14.2.2.2.2.2.2.2.2 m_csize a_ctails a_cheads a_cgaps a_leftOut a_qrow a_line a_tsize t_word a_own a_oth a_fst a_snd a_plc) s.heap H locs := hw
      refine lv_if_ne (tgt := 52) hx hb dX11_between_39 (by decide) (fun c15 => ?_) (fun c15 => ?_)
      · have hf := it_n c15 hf
        refine lv_iload_n hx hb dX11_between_52 rfl (lv_at hl 3 rfl) ?_
        refine lv_if_eq (tgt := 72) hx hb dX11_between_53 (by decide) (fun c16 => ?_) (fun c16 => ?_)
        · have hf := it_p c16 hf
          refine lv_aload_n hx hb dX11_between_72 rfl (lv_at hl 0 rfl) ?_
          refine g_get hx hb hts i_X11 hown hK hw 0 eC_c0 rfl 4 (by decide) L_48 (fun _ h => h) rfl dX11_between_73 ?_
          refine lv_iload_n hx hb dX11_between_76 rfl (lv_at hl 1 rfl) ?_
          obtain ⟨q17, hq17, hf⟩ := bd hf
          refine g_Si (As := [.int p1]) (rest := [.ref (ad 12)]) ⟨hx, hb, hml, hown, hts⟩ (k_X4_lastOf hq17) (va_cwS 1 hts gX11_between_X4_lastOf rfl rfl rfl (by decide +kernel) ⟨Nat.le_of_ble_eq_true rfl, Nat.le_of_ble_eq_true rfl⟩) STC_ok hst hK hw (eC_len.trans eC_len.symm) rfl hl.1 rfl (Nat.le_of_ble_eq_true rfl) dX11_between_77 ⟨Nat.zero_le _, Nat.zero_le _⟩ (fun H locs hw => ?_)
          refine lv_iload_n hx hb dX11_between_80 rfl (lv_at hl 2 rfl) ?_
          obtain ⟨q18, hq18, hf⟩ := bd hf
          refine g_Si (As := [.int p2]) (rest := [.int q17, .ref (ad 12)]) ⟨hx, hb, hml, hown, hts⟩ (k_X4_firstOf hq18) (va_cwS 1 hts gX11_between_X4_firstOf rfl rfl rfl (by decide +kernel) ⟨Nat.le_of_ble_eq_true rfl, Nat.le_of_ble_eq_true rfl⟩) STC_ok hst hK hw (eC_len.trans eC_len.symm) rfl hl.1 rfl (Nat.le_of_ble_eq_true rfl) dX11_between_81 ⟨Nat.zero_le _, Nat.zero_le _⟩ (fun H locs hw => ?_)
          obtain ⟨q19, hq19, hf⟩ := bd hf
          refine g_Vi (As := [.int q17, .int q18]) (rest := []) ⟨hx, hb, hml, hown, hts⟩ (k_X1_least hq19) (cwV 2 hts gX11_between_X1_least rfl rfl rfl (by decide +kernel) ⟨Nat.le_of_ble_eq_true rfl, Nat.le_of_ble_eq_true rfl⟩) STC_ok hst hK hw (eC_len.trans eC_len.symm) eC_c12 rfl rfl hl.1 rfl (Nat.le_of_ble_eq_true rfl) dX11_between_84 ⟨Nat.zero_le _, Nat.zero_le _⟩ (fun H locs hw => ?_)
          have hw : Wo D ad (Aw ad 124 s.heap.size) (eC ad adE y m_out t_draft m_tlen a_bytes m_nsize m_drafted a_letters a_nlen t_texts m_here m_fkind m_fplace m_toks t_types a_starts a_tlens m_heard m_qsize q14.2.1 q14.2.2.1 m_qKnown m_lineKnown q19.2.1 q19.2.2.1 q19.2.2.2.1 q19.2.2.2.2.1 q19.2.2.2.2.2.1 q19.2.2.2.2.2.2 m_csize a_ctails a_cheads a_cgaps a_leftOut a_qrow a_line a_tsize t_word a_own a_oth a_fst a_snd a_plc) s.heap H locs := hw
          obtain rfl := so hf
          exact g_retX hx hb hr hlocks hw dX11_between_87 rfl
        · have hf := it_n c16 hf
          refine lv_aload_n hx hb dX11_between_56 rfl (lv_at hl 0 rfl) ?_
          refine g_get hx hb hts i_X11 hown hK hw 0 eC_c0 rfl 4 (by decide) L_48 (fun _ h => h) rfl dX11_between_57 ?_
          refine lv_iload_n hx hb dX11_between_60 rfl (lv_at hl 1 rfl) ?_
          obtain ⟨q20, hq20, hf⟩ := bd hf
          refine g_Si (As := [.int p1]) (rest := [.ref (ad 12)]) ⟨hx, hb, hml, hown, hts⟩ (k_X4_lastOf hq20) (va_cwS 1 hts gX11_between_X4_lastOf rfl rfl rfl (by decide +kernel) ⟨Nat.le_of_ble_eq_true rfl, Nat.le_of_ble_eq_true rfl⟩) STC_ok hst hK hw (eC_len.trans eC_len.symm) rfl hl.1 rfl (Nat.le_of_ble_eq_true rfl) dX11_between_61 ⟨Nat.zero_le _, Nat.zero_le _⟩ (fun H locs hw => ?_)
          refine lv_iload_n hx hb dX11_between_64 rfl (lv_at hl 2 rfl) ?_
          obtain ⟨q21, hq21, hf⟩ := bd hf
          refine g_Si (As := [.int p2]) (rest := [.int q20, .ref (ad 12)]) ⟨hx, hb, hml, hown, hts⟩ (k_X4_firstOf hq21) (va_cwS 1 hts gX11_between_X4_firstOf rfl rfl rfl (by decide +kernel) ⟨Nat.le_of_ble_eq_true rfl, Nat.le_of_ble_eq_true rfl⟩) STC_ok hst hK hw (eC_len.trans eC_len.symm) rfl hl.1 rfl (Nat.le_of_ble_eq_true rfl) dX11_between_65 ⟨Nat.zero_le _, Nat.zero_le _⟩ (fun H locs hw => ?_)
          obtain ⟨q22, hq22, hf⟩ := bd hf
          refine g_Vi (As := [.int q20, .int q21]) (rest := []) ⟨hx, hb, hml, hown, hts⟩ (k_X1_greatest hq22) (cwV 2 hts gX11_between_X1_greatest rfl rfl rfl (by decide +kernel) ⟨Nat.le_of_ble_eq_true rfl, Nat.le_of_ble_eq_true rfl⟩) STC_ok hst hK hw (eC_len.trans eC_len.symm) eC_c12 rfl rfl hl.1 rfl (Nat.le_of_ble_eq_true rfl) dX11_between_68 ⟨Nat.zero_le _, Nat.zero_le _⟩ (fun H locs hw => ?_)
          have hw : Wo D ad (Aw ad 124 s.heap.size) (eC ad adE y m_out t_draft m_tlen a_bytes m_nsize m_drafted a_letters a_nlen t_texts m_here m_fkind m_fplace m_toks t_types a_starts a_tlens m_heard m_qsize q14.2.1 q14.2.2.1 m_qKnown m_lineKnown q22.2.1 q22.2.2.1 q22.2.2.2.1 q22.2.2.2.2.1 q22.2.2.2.2.2.1 q22.2.2.2.2.2.2 m_csize a_ctails a_cheads a_cgaps a_leftOut a_qrow a_line a_tsize t_word a_own a_oth a_fst a_snd a_plc) s.heap H locs := hw
          obtain rfl := so hf
          exact g_retX hx hb hr hlocks hw dX11_between_71 rfl
      · have hf := it_p c15 hf
        obtain rfl := so hf
        exact g_thrN (ws := wsX11_between) 5 (by decide) hx hb htr hown hlocks hno hts hk_2.1 hk_2.2.1 hk_2.2.2 hsx hw (hl.1.trans hml.symm) dX11_between_42 dX11_between_45 dX11_between_46 dX11_between_48 dX11_between_51 ⟨by decide, by decide, by decide, by decide⟩
    · have hf := it_p c13 hf
      exact kb_X11_between_b22 C0 hf hw (lv_sub hl [] rfl)
set_option maxHeartbeats 4000000 in
theorem k_X11_between {l : Launch} (htr : l.stackTraces = false) {D : va_G} {ad : Nat → Nat} {y : Nat → ClassId} {adE adK adV : Nat → Nat} {tkA swA : Nat} {sa : Nat → Nat} {m_out : Int32} {t_draft : Nat} {m_tlen : Int32} {a_bytes : Nat → Int32} {m_nsize : Int32} {m_drafted : Int32} {a_letters : Nat → Int32} {a_nlen : Nat → Int32} {t_texts : Nat → Nat} {m_here : Int32} {m_fkind : Int32} {m_fplace : Int32} {m_toks : Int32} {t_types : Nat → Nat} {a_starts : Nat → Int32} {a_tlens : Nat → Int32} {m_heard : Int32} {m_qsize : Int32} {m_wayKnown : Int32} {m_way : Int32} {m_qKnown : Int32} {m_lineKnown : Int32} {m_nodes : Int32} {m_lsize : Int32} {a_tails : Nat → Int32} {a_heads : Nat → Int32} {a_gaps : Nat → Int32} {a_least : Nat → Int32} {m_csize : Int32} {a_ctails : Nat → Int32} {a_cheads : Nat → Int32} {a_cgaps : Nat → Int32} {a_leftOut : Nat → Int32} {a_qrow : Nat → Int32} {a_line : Nat → Int32} {a_tsize : Nat → Int32} {t_word : Nat → Nat} {a_own : Nat → Int32} {a_oth : Nat → Int32} {a_fst : Nat → Int32} {a_snd : Nat → Int32} {a_plc : Nat → Int32} {p1 : Int32} {p2 : Int32} {p3 : Int32} {res : (Int32 × Int32 × Int32 × Int32 × Int32 × (Nat → Int32) × (Nat → Int32) × (Nat → Int32) × (Nat → Int32)) ⊕ (Nat × Int32 × Int32 × Int32 × Int32 × (Nat → Int32) × (Nat → Int32) × (Nat → Int32) × (Nat → Int32))} (hf : f_X11_between m_nsize t_texts m_heard m_wayKnown m_way m_nodes m_lsize a_tails a_heads a_gaps a_least a_leftOut a_tsize t_word a_own a_oth a_fst a_snd p1 p2 p3 = some res) : CTX l yX11_between wsX11_between rm_X11_between D ad 124 (tyL y) (STX ad adE adK adV tkA swA sa) (eC ad adE y m_out t_draft m_tlen a_bytes m_nsize m_drafted a_letters a_nlen t_texts m_here m_fkind m_fplace m_toks t_types a_starts a_tlens m_heard m_qsize m_wayKnown m_way m_qKnown m_lineKnown m_nodes m_lsize a_tails a_heads a_gaps a_least m_csize a_ctails a_cheads a_cgaps a_leftOut a_qrow a_line a_tsize t_word a_own a_oth a_fst a_snd a_plc) [.ref (ad 0), .int p1, .int p2, .int p3] (rx_X11_between ad y adE m_out t_draft m_tlen a_bytes m_nsize m_drafted a_letters a_nlen t_texts m_here m_fkind m_fplace m_toks t_types a_starts a_tlens m_heard m_qsize m_qKnown m_lineKnown m_csize a_ctails a_cheads a_cgaps a_leftOut a_qrow a_line a_tsize t_word a_own a_oth a_fst a_snd a_plc res) := by
  intro sz
  refine vx_ofW (cc := cX11_between) (maxL := 4) (ret := (some .int)) (by decide) rfl ?_
  intro p e s m args below meth c s₁ B hml hno hv
  obtain ⟨rfl, hsz, hP, hK, hD0, hst⟩ := hv
  subst hsz
  have C0 : CXT wsX11_between cX11_between RX11 4 (some .int) D (tyL y) (STX ad adE adK adV tkA swA sa) p s m ([.ref (ad 0), .int p1, .int p2, .int p3] : List Value).toArray meth c ∧ (∀ x ∈ c.exceptionTable.toList, False) ∧ l.stackTraces = false := ⟨⟨B.exec, B.bytes, B.returns, hml, findClass_of_methodNamed B.named, atoms_spec (ws := wsX11_between) B.pre, B.notSynchronized, hK, hst⟩, hno, htr⟩
  have hw := g_start (n := 124) eC_len hP hD0
  have hl := lv_entry ([.ref (ad 0), .int p1, .int p2, .int p3]) (n := 4) (Nat.le_of_ble_eq_true rfl)
  rw [lg_entry_eq]
  generalize (lg_sl ([.ref (ad 0), .int p1, .int p2, .int p3]) ++ List.replicate (4 - (lg_sl ([.ref (ad 0), .int p1, .int p2, .int p3])).length) Slot.unset).toArray = ls at hl ⊢
  have hl : lv_has ls 4 [(0, .ref (ad 0)), (1, .int p1), (2, .int p2), (3, .int p3)] := hl
  exact ke_X11_between C0 hf hw hl
abbrev rm_X11_tell : Room := { frames := 9, cells := 1, slots := 6, locals := 203 }
abbrev rx_X11_tell (ad : Nat → Nat) (y : Nat → ClassId) (adE : Nat → Nat) (m_out : Int32) (a_bytes : Nat → Int32) (m_heard : Int32) (m_qsize : Int32) (m_way : Int32) (m_nodes : Int32) (m_lsize : Int32) (a_tails : Nat → Int32) (a_heads : Nat → Int32) (a_gaps : Nat → Int32) (a_least : Nat → Int32) (m_csize : Int32) (a_ctails : Nat → Int32) (a_cheads : Nat → Int32) (a_cgaps : Nat → Int32) (a_leftOut : Nat → Int32) (a_qrow : Nat → Int32) (a_line : Nat → Int32) (res : (Int32 × Nat × Int32 × Int32 × Int32 × (Nat → Int32) × (Nat → Int32) × (Nat → Nat) × Int32 × Int32 × Int32 × Int32 × (Nat → Nat) × (Nat → Int32) × (Nat → Int32) × Int32 × Int32 × Int32 × (Nat → Int32) × (Nat → Nat) × (Nat → Int32) × (Nat → Int32) × (Nat → Int32) × (Nat → Int32) × (Nat → Int32)) ⊕ (Nat × Nat × Int32 × Int32 × Int32 × (Nat → Int32) × (Nat → Int32) × (Nat → Nat) × Int32 × Int32 × Int32 × Int32 × (Nat → Nat) × (Nat → Int32) × (Nat → Int32) × Int32 × Int32 × Int32 × (Nat → Int32) × (Nat → Nat) × (Nat → Int32) × (Nat → Int32) × (Nat → Int32) × (Nat → Int32) × (Nat → Int32))) : ResX := match res with
  | .inl r => .inl (r.1, (eC ad adE y m_out r.2.1 r.2.2.1 a_bytes r.2.2.2.1 r.2.2.2.2.1 r.2.2.2.2.2.1 r.2.2.2.2.2.2.1 r.2.2.2.2.2.2.2.1 r.2.2.2.2.2.2.2.2.1 r.2.2.2.2.2.2.2.2.2.1 r.2.2.2.2.2.2.2.2.2.2.1 r.2.2.2.2.2.2.2.2.2.2.2.1 r.2.2.2.2.2.2.2.2.2.2.2.2.1 r.2.2.2.2.2.2.2.2.2.2.2.2.2.1 r.2.2.2.2.2.2.2.2.2.2.2.2.2.2.1 m_heard m_qsize r.2.2.2.2.2.2.2.2.2.2.2.2.2.2.2.1 m_way r.2.2.2.2.2.2.2.2.2.2.2.2.2.2.2.2.1 r.2.2.2.2.2.2.2.2.2.2.2.2.2.2.2.2.2.1 m_nodes m_lsize a_tails a_heads a_gaps a_least m_csize a_ctails a_cheads a_cgaps a_leftOut a_qrow a_line r.2.2.2.2.2.2.2.2.2.2.2.2.2.2.2.2.2.2.1 r.2.2.2.2.2.2.2.2.2.2.2.2.2.2.2.2.2.2.2.1 r.2.2.2.2.2.2.2.2.2.2.2.2.2.2.2.2.2.2.2.2.1 r.2.2.2.2.2.2.2.2.2.2.2.2.2.2.2.2.2.2.2.2.2.1 r.2.2.2.2.2.2.2.2.2.2.2.2.2.2.2.2.2.2.2.2.2.2.1 r.2.2.2.2.2.2.2.2.2.2.2.2.2.2.2.2.2.2.2.2.2.2.2.1 r.2.2.2.2.2.2.2.2.2.2.2.2.2.2.2.2.2.2.2.2.2.2.2.2))
  | .inr r => .inr (exN r.1, (eC ad adE y m_out r.2.1 r.2.2.1 a_bytes r.2.2.2.1 r.2.2.2.2.1 r.2.2.2.2.2.1 r.2.2.2.2.2.2.1 r.2.2.2.2.2.2.2.1 r.2.2.2.2.2.2.2.2.1 r.2.2.2.2.2.2.2.2.2.1 r.2.2.2.2.2.2.2.2.2.2.1 r.2.2.2.2.2.2.2.2.2.2.2.1 r.2.2.2.2.2.2.2.2.2.2.2.2.1 r.2.2.2.2.2.2.2.2.2.2.2.2.2.1 r.2.2.2.2.2.2.2.2.2.2.2.2.2.2.1 m_heard m_qsize r.2.2.2.2.2.2.2.2.2.2.2.2.2.2.2.1 m_way r.2.2.2.2.2.2.2.2.2.2.2.2.2.2.2.2.1 r.2.2.2.2.2.2.2.2.2.2.2.2.2.2.2.2.2.1 m_nodes m_lsize a_tails a_heads a_gaps a_least m_csize a_ctails a_cheads a_cgaps a_leftOut a_qrow a_line r.2.2.2.2.2.2.2.2.2.2.2.2.2.2.2.2.2.2.1 r.2.2.2.2.2.2.2.2.2.2.2.2.2.2.2.2.2.2.2.1 r.2.2.2.2.2.2.2.2.2.2.2.2.2.2.2.2.2.2.2.2.1 r.2.2.2.2.2.2.2.2.2.2.2.2.2.2.2.2.2.2.2.2.2.1 r.2.2.2.2.2.2.2.2.2.2.2.2.2.2.2.2.2.2.2.2.2.2.1 r.2.2.2.2.2.2.2.2.2.2.2.2.2.2.2.2.2.2.2.2.2.2.2.1 r.2.2.2.2.2.2.2.2.2.2.2.2.2.2.2.2.2.2.2.2.2.2.2.2))
abbrev QM_X11_tell (below : List Frame) (args : Array Value) (s : State) (D : va_G) (ad : Nat → Nat) (y : Nat → ClassId) (adE : Nat → Nat) (m_out : Int32) (a_bytes : Nat → Int32) (m_heard : Int32) (m_qsize : Int32) (m_way : Int32) (m_nodes : Int32) (m_lsize : Int32) (a_tails : Nat → Int32) (a_heads : Nat → Int32) (a_gaps : Nat → Int32) (a_least : Nat → Int32) (m_csize : Int32) (a_ctails : Nat → Int32) (a_cheads : Nat → Int32) (a_cgaps : Nat → Int32) (a_leftOut : Nat → Int32) (a_qrow : Nat → Int32) (a_line : Nat → Int32) (res : (Int32 × Nat × Int32 × Int32 × Int32 × (Nat → Int32) × (Nat → Int32) × (Nat → Nat) × Int32 × Int32 × Int32 × Int32 × (Nat → Nat) × (Nat → Int32) × (Nat → Int32) × Int32 × Int32 × Int32 × (Nat → Int32) × (Nat → Nat) × (Nat → Int32) × (Nat → Int32) × (Nat → Int32) × (Nat → Int32) × (Nat → Int32)) ⊕ (Nat × Nat × Int32 × Int32 × Int32 × (Nat → Int32) × (Nat → Int32) × (Nat → Nat) × Int32 × Int32 × Int32 × Int32 × (Nat → Nat) × (Nat → Int32) × (Nat → Int32) × Int32 × Int32 × Int32 × (Nat → Int32) × (Nat → Nat) × (Nat → Int32) × (Nat → Int32) × (Nat → Int32) × (Nat → Int32) × (Nat → Int32))) : State → Prop := vx_MQ below (QcX D ad 124 s.heap.size (rx_X11_tell ad y adE m_out a_bytes m_heard m_qsize m_way m_nodes m_lsize a_tails a_heads a_gaps a_least m_csize a_ctails a_cheads a_cgaps a_leftOut a_qrow a_line res)) (XcX D ad 124 s.heap.size (rx_X11_tell ad y adE m_out a_bytes m_heard m_qsize m_way m_nodes m_lsize a_tails a_heads a_gaps a_least m_csize a_ctails a_cheads a_cgaps a_leftOut a_qrow a_line res)) args s 1 6 (Aw ad 124 s.heap.size)
set_option maxRecDepth 100000 in
theorem kxX11_tell_1 : Cond.classLink RX11 67 exI ∈ wsX11_tell ∧ Cond.initialized exI ∈ wsX11_tell ∧ ∀ w ∈ (vx_atS RX11 71 exI thN).filter goodWord, w ∈ wsX11_tell := by decide +kernel
set_option maxHeartbeats 4000000 in
set_option maxRecDepth 100000 in
theorem ke_X11_tell {p : Program} {l : Launch} {e : Env} {s : State} {m : MethodId} {args : Array Value} {below : List Frame} {meth : Method} {c : Code} {D : va_G} {ad : Nat → Nat} {y : Nat → ClassId} {adE adK adV : Nat → Nat} {tkA swA : Nat} {sa : Nat → Nat} (C0 : CXT wsX11_tell cX11_tell RX11 4 (some .int) D (tyL y) (STX ad adE adK adV tkA swA sa) p s m args meth c ∧ (∀ x ∈ c.exceptionTable.toList, False) ∧ l.stackTraces = false) {m_out : Int32} {t_draft : Nat} {m_tlen : Int32} {a_bytes : Nat → Int32} {m_nsize : Int32} {m_drafted : Int32} {a_letters : Nat → Int32} {a_nlen : Nat → Int32} {t_texts : Nat → Nat} {m_here : Int32} {m_fkind : Int32} {m_fplace : Int32} {m_toks : Int32} {t_types : Nat → Nat} {a_starts : Nat → Int32} {a_tlens : Nat → Int32} {m_heard : Int32} {m_qsize : Int32} {m_wayKnown : Int32} {m_way : Int32} {m_qKnown : Int32} {m_lineKnown : Int32} {m_nodes : Int32} {m_lsize : Int32} {a_tails : Nat → Int32} {a_heads : Nat → Int32} {a_gaps : Nat → Int32} {a_least : Nat → Int32} {m_csize : Int32} {a_ctails : Nat → Int32} {a_cheads : Nat → Int32} {a_cgaps : Nat → Int32} {a_leftOut : Nat → Int32} {a_qrow : Nat → Int32} {a_line : Nat → Int32} {a_tsize : Nat → Int32} {t_word : Nat → Nat} {a_own : Nat → Int32} {a_oth : Nat → Int32} {a_fst : Nat → Int32} {a_snd : Nat → Int32} {a_plc : Nat → Int32} {p1 : Int32} {res : (Int32 × Nat × Int32 × Int32 × Int32 × (Nat → Int32) × (Nat → Int32) × (Nat → Nat) × Int32 × Int32 × Int32 × Int32 × (Nat → Nat) × (Nat → Int32) × (Nat → Int32) × Int32 × Int32 × Int32 × (Nat → Int32) × (Nat → Nat) × (Nat → Int32) × (Nat → Int32) × (Nat → Int32) × (Nat → Int32) × (Nat → Int32)) ⊕ (Nat × Nat × Int32 × Int32 × Int32 × (Nat → Int32) × (Nat → Int32) × (Nat → Nat) × Int32 × Int32 × Int32 × Int32 × (Nat → Nat) × (Nat → Int32) × (Nat → Int32) × Int32 × Int32 × Int32 × (Nat → Int32) × (Nat → Nat) × (Nat → Int32) × (Nat → Int32) × (Nat → Int32) × (Nat → Int32) × (Nat → Int32))} (hf : f_X11_tell t_draft m_tlen a_bytes m_nsize m_drafted a_letters a_nlen t_texts m_here m_fkind m_fplace m_toks t_types a_starts a_tlens m_wayKnown m_qKnown m_lineKnown a_tsize t_word a_own a_oth a_fst a_snd a_plc p1 = some res) {H : Heap} {locs : List Loc} {ls : Array Slot} (hw : Wo D ad (Aw ad 124 s.heap.size) (eC ad adE y m_out t_draft m_tlen a_bytes m_nsize m_drafted a_letters a_nlen t_texts m_here m_fkind m_fplace m_toks t_types a_starts a_tlens m_heard m_qsize m_wayKnown m_way m_qKnown m_lineKnown m_nodes m_lsize a_tails a_heads a_gaps a_least m_csize a_ctails a_cheads a_cgaps a_leftOut a_qrow a_line a_tsize t_word a_own a_oth a_fst a_snd a_plc) s.heap H locs) (hl : lv_has ls 4 [(0, .ref (ad 0)), (1, .int p1)]) : W p l e rm_X11_tell s m args below meth c H locs 0 0 (QM_X11_tell below args s D ad y adE (m_out) (a_bytes) (m_heard) (m_qsize) (m_way) (m_nodes) (m_lsize) (a_tails) (a_heads) (a_gaps) (a_least) (m_csize) (a_ctails) (a_cheads) (a_cgaps) (a_leftOut) (a_qrow) (a_line) res) (F0 m 0 ls []) := by
  obtain ⟨⟨hx, hb, hr, hml, hown, hts, hlocks, hK, hsx⟩, hno, htr⟩ := id C0
  have hst := hsx.1
  have hk_1 := kxX11_tell_1
  have i_X11 : ∀ w ∈ u_ws RX11 TX11 7, w ∈ wsX11_tell := by decide +kernel
  have L_39 := hts (.fieldLink RX11 39 "CaseOrder" "reader" "LCaseOrder$Reader;") (by decide +kernel)
  have L_30 := hts (.fieldLink RX11 30 "CaseOrder" "draft" "LCaseOrder$Text;") (by decide +kernel)
  have L_10 := hts (.fieldLink RX11 10 "CaseOrder" "tape" "LCaseOrder$Tape;") (by decide +kernel)
  have i_X7 : ∀ w ∈ u_ws RX7 TX7 2, w ∈ wsX11_tell := by decide +kernel
  have L_56 := hts (.fieldLink RX11 56 "CaseOrder$Tape" "length" "I") (by decide +kernel)
  have L_25 := hts (.fieldLink RX11 25 "CaseOrder" "texts" "[LCaseOrder$Text;") (by decide +kernel)
  have L_48 := hts (.fieldLink RX11 48 "CaseOrder" "hearing" "LCaseOrder$Hearing;") (by decide +kernel)
  have i_X8 : ∀ w ∈ u_ws RX8 TX8 2, w ∈ wsX11_tell := by decide +kernel
  have L_84 := hts (.fieldLink RX11 84 "CaseOrder$Text" "size" "I") (by decide +kernel)
  have i_X5 : ∀ w ∈ u_ws RX5 TX5 6, w ∈ wsX11_tell := by decide +kernel
  have L_78 := hts (.fieldLink RX11 78 "CaseOrder$Reader" "faultPlace" "I") (by decide +kernel)
  unfold f_X11_tell at hf
  refine lv_iload_n hx hb dX11_tell_0 rfl (lv_at hl 1 rfl) ?_
  obtain ⟨q9, hq9, hf⟩ := bd hf
  refine g_Si (As := [.int p1]) (rest := []) ⟨hx, hb, hml, hown, hts⟩ (k_X11_isTeller hq9) (va_cwS 1 hts gX11_tell_X11_isTeller rfl rfl rfl (by decide +kernel) ⟨Nat.le_of_ble_eq_true rfl, Nat.le_of_ble_eq_true rfl⟩) STC_ok hst hK hw (eC_len.trans eC_len.symm) rfl hl.1 rfl (Nat.le_of_ble_eq_true rfl) dX11_tell_1 ⟨Nat.zero_le _, Nat.zero_le _⟩ (fun H locs hw => ?_)
  refine lv_if_ne (tgt := 17) hx hb dX11_tell_4 (by decide) (fun c10 => ?_) (fun c10 => ?_)
  · have hf := it_n c10 hf
    refine lv_aload_n hx hb dX11_tell_17 rfl (lv_at hl 0 rfl) ?_
    refine g_get hx hb hts i_X11 hown hK hw 0 eC_c0 rfl 3 (by decide) L_39 (fun _ h => h) rfl dX11_tell_18 ?_
    refine lv_aload_n hx hb dX11_tell_21 rfl (lv_at hl 0 rfl) ?_
    refine g_get hx hb hts i_X11 hown hK hw 0 eC_c0 rfl 6 (by decide) L_30 (fun _ h => h) rfl dX11_tell_22 ?_
    obtain ⟨q11, hq11, hf⟩ := bd hf
    refine g_Vi (As := [.ref (ad (26 + t_draft))]) (rest := []) ⟨hx, hb, hml, hown, hts⟩ (k_X5_read hq11) (cwV 1 hts gX11_tell_X5_read rfl rfl rfl (by decide +kernel) ⟨Nat.le_of_ble_eq_true rfl, Nat.le_of_ble_eq_true rfl⟩) STC_ok hst hK hw (eC_len.trans eC_len.symm) eC_c7 rfl rfl hl.1 rfl (Nat.le_of_ble_eq_true rfl) dX11_tell_25 ⟨Nat.zero_le _, Nat.zero_le _⟩ (fun H locs hw => ?_)
    have hw : Wo D ad (Aw ad 124 s.heap.size) (eC ad adE y m_out t_draft m_tlen a_bytes q11.2.1 q11.2.2.1 q11.2.2.2.1 q11.2.2.2.2.1 t_texts q11.2.2.2.2.2.1 q11.2.2.2.2.2.2.1 q11.2.2.2.2.2.2.2.1 q11.2.2.2.2.2.2.2.2.1 q11.2.2.2.2.2.2.2.2.2.1 q11.2.2.2.2.2.2.2.2.2.2.1 q11.2.2.2.2.2.2.2.2.2.2.2.1 m_heard m_qsize m_wayKnown m_way m_qKnown m_lineKnown m_nodes m_lsize a_tails a_heads a_gaps a_least m_csize a_ctails a_cheads a_cgaps a_leftOut a_qrow a_line q11.2.2.2.2.2.2.2.2.2.2.2.2.1 q11.2.2.2.2.2.2.2.2.2.2.2.2.2.1 q11.2.2.2.2.2.2.2.2.2.2.2.2.2.2.1 q11.2.2.2.2.2.2.2.2.2.2.2.2.2.2.2.1 q11.2.2.2.2.2.2.2.2.2.2.2.2.2.2.2.2.1 q11.2.2.2.2.2.2.2.2.2.2.2.2.2.2.2.2.2.1 q11.2.2.2.2.2.2.2.2.2.2.2.2.2.2.2.2.2.2) s.heap H locs := hw
    refine lv_istore_n (lv' := [(2, .int q11.1), (0, .ref (ad 0)), (1, .int p1)]) hx hb dX11_tell_28 rfl hl (by decide) rfl (fun ls hl => ?_)
    refine lv_aload_n hx hb dX11_tell_29 rfl (lv_at hl 1 rfl) ?_
    refine g_get hx hb hts i_X11 hown hK hw 0 eC_c0 rfl 0 (by decide) L_10 (fun _ h => h) rfl dX11_tell_30 ?_
    refine lv_iconst (v := 0) hx hb dX11_tell_33 (by decide) ?_
    refine g_put (ty := .int) hx hb hts i_X7 tyX7 tyX7_ok nmX7 hown hK hw 1 eC_c1 rfl 1 (by decide) L_56 (fun _ h => h) rfl (by decide +kernel) rfl rfl (Nat.le_of_ble_eq_true rfl) dX11_tell_34 (fun H locs hw => ?_)
    have hw : Wo D ad (Aw ad 124 s.heap.size) (eC ad adE y m_out t_draft 0 a_bytes q11.2.1 q11.2.2.1 q11.2.2.2.1 q11.2.2.2.2.1 t_texts q11.2.2.2.2.2.1 q11.2.2.2.2.2.2.1 q11.2.2.2.2.2.2.2.1 q11.2.2.2.2.2.2.2.2.1 q11.2.2.2.2.2.2.2.2.2.1 q11.2.2.2.2.2.2.2.2.2.2.1 q11.2.2.2.2.2.2.2.2.2.2.2.1 m_heard m_qsize m_wayKnown m_way m_qKnown m_lineKnown m_nodes m_lsize a_tails a_heads a_gaps a_least m_csize a_ctails a_cheads a_cgaps a_leftOut a_qrow a_line q11.2.2.2.2.2.2.2.2.2.2.2.2.1 q11.2.2.2.2.2.2.2.2.2.2.2.2.2.1 q11.2.2.2.2.2.2.2.2.2.2.2.2.2.2.1 q11.2.2.2.2.2.2.2.2.2.2.2.2.2.2.2.1 q11.2.2.2.2.2.2.2.2.2.2.2.2.2.2.2.2.1 q11.2.2.2.2.2.2.2.2.2.2.2.2.2.2.2.2.2.1 q11.2.2.2.2.2.2.2.2.2.2.2.2.2.2.2.2.2.2) s.heap H locs := hw
    refine lv_iload_n hx hb dX11_tell_37 rfl (lv_at hl 0 rfl) ?_
    refine lv_if_ne (tgt := 51) hx hb dX11_tell_38 (by decide) (fun c12 => ?_) (fun c12 => ?_)
    · have hf := it_n c12 hf
      refine lv_aload_n hx hb dX11_tell_51 rfl (lv_at hl 1 rfl) ?_
      refine g_get hx hb hts i_X11 hown hK hw 0 eC_c0 rfl 2 (by decide) L_25 (fun _ h => h) rfl dX11_tell_52 ?_
      refine lv_iload_n hx hb dX11_tell_55 rfl (lv_at hl 2 rfl) ?_
      obtain ⟨g13, hf⟩ := gIn_some hf
      refine g_aald hx hb hK hw 6 4 eC_c6 rfl g13 dX11_tell_56 rfl ?_
      refine lv_astore_n (lv' := [(3, .ref (ad (26 + (t_texts (Int32.toNatClampNeg p1))))), (2, .int q11.1), (0, .ref (ad 0)), (1, .int p1)]) hx hb dX11_tell_57 rfl hl (by decide) rfl (fun ls hl => ?_)
      refine lv_aload_n hx hb dX11_tell_58 rfl (lv_at hl 2 rfl) ?_
      refine g_get hx hb hts i_X11 hown hK hw 0 eC_c0 rfl 2 (by decide) L_25 (fun _ h => h) rfl dX11_tell_59 ?_
      refine lv_iload_n hx hb dX11_tell_62 rfl (lv_at hl 3 rfl) ?_
      refine lv_aload_n hx hb dX11_tell_63 rfl (lv_at hl 2 rfl) ?_
      refine g_get hx hb hts i_X11 hown hK hw 0 eC_c0 rfl 6 (by decide) L_30 (fun _ h => h) rfl dX11_tell_64 ?_
      obtain ⟨g14, hf⟩ := gN_some hf
      obtain ⟨g15, hf⟩ := gIn_some hf
      refine g_tast hx hb hK hw 6 4 (26 + t_draft) 7 eC_c6 rfl (eC_T g14) rfl g15 dX11_tell_67 (fun H locs hw => ?_)
      rw [up_tx] at hw
      have hw : Wo D ad (Aw ad 124 s.heap.size) (eC ad adE y m_out t_draft 0 a_bytes q11.2.1 q11.2.2.1 q11.2.2.2.1 q11.2.2.2.2.1 (va_up t_texts (Int32.toNatClampNeg p1) t_draft) q11.2.2.2.2.2.1 q11.2.2.2.2.2.2.1 q11.2.2.2.2.2.2.2.1 q11.2.2.2.2.2.2.2.2.1 q11.2.2.2.2.2.2.2.2.2.1 q11.2.2.2.2.2.2.2.2.2.2.1 q11.2.2.2.2.2.2.2.2.2.2.2.1 m_heard m_qsize m_wayKnown m_way m_qKnown m_lineKnown m_nodes m_lsize a_tails a_heads a_gaps a_least m_csize a_ctails a_cheads a_cgaps a_leftOut a_qrow a_line q11.2.2.2.2.2.2.2.2.2.2.2.2.1 q11.2.2.2.2.2.2.2.2.2.2.2.2.2.1 q11.2.2.2.2.2.2.2.2.2.2.2.2.2.2.1 q11.2.2.2.2.2.2.2.2.2.2.2.2.2.2.2.1 q11.2.2.2.2.2.2.2.2.2.2.2.2.2.2.2.2.1 q11.2.2.2.2.2.2.2.2.2.2.2.2.2.2.2.2.2.1 q11.2.2.2.2.2.2.2.2.2.2.2.2.2.2.2.2.2.2) s.heap H locs := hw
      refine lv_aload_n hx hb dX11_tell_68 rfl (lv_at hl 2 rfl) ?_
      refine lv_aload_n hx hb dX11_tell_69 rfl (lv_at hl 0 rfl) ?_
      refine g_put (ty := .object "CaseOrder$Text") hx hb hts i_X11 tyX11 tyX11_ok nmX11 hown hK hw 0 eC_c0 rfl 6 (by decide) L_30 (fun _ h => h) rfl (by decide +kernel) rfl rfl (Nat.le_of_ble_eq_true rfl) dX11_tell_70 (fun H locs hw => ?_)
      have hw : Wo D ad (Aw ad 124 s.heap.size) (eC ad adE y m_out (t_texts (Int32.toNatClampNeg p1)) 0 a_bytes q11.2.1 q11.2.2.1 q11.2.2.2.1 q11.2.2.2.2.1 (va_up t_texts (Int32.toNatClampNeg p1) t_draft) q11.2.2.2.2.2.1 q11.2.2.2.2.2.2.1 q11.2.2.2.2.2.2.2.1 q11.2.2.2.2.2.2.2.2.1 q11.2.2.2.2.2.2.2.2.2.1 q11.2.2.2.2.2.2.2.2.2.2.1 q11.2.2.2.2.2.2.2.2.2.2.2.1 m_heard m_qsize m_wayKnown m_way m_qKnown m_lineKnown m_nodes m_lsize a_tails a_heads a_gaps a_least m_csize a_ctails a_cheads a_cgaps a_leftOut a_qrow a_line q11.2.2.2.2.2.2.2.2.2.2.2.2.1 q11.2.2.2.2.2.2.2.2.2.2.2.2.2.1 q11.2.2.2.2.2.2.2.2.2.2.2.2.2.2.1 q11.2.2.2.2.2.2.2.2.2.2.2.2.2.2.2.1 q11.2.2.2.2.2.2.2.2.2.2.2.2.2.2.2.2.1 q11.2.2.2.2.2.2.2.2.2.2.2.2.2.2.2.2.2.1 q11.2.2.2.2.2.2.2.2.2.2.2.2.2.2.2.2.2.2) s.heap H locs := hw
      refine lv_aload_n hx hb dX11_tell_73 rfl (lv_at hl 2 rfl) ?_
      refine g_get hx hb hts i_X11 hown hK hw 0 eC_c0 rfl 4 (by decide) L_48 (fun _ h => h) rfl dX11_tell_74 ?_
      obtain ⟨q16, hq16, hf⟩ := bd hf
      refine g_Vv (As := []) (rest := []) ⟨hx, hb, hml, hown, hts⟩ (k_X1_forget hq16) (cwV 0 hts gX11_tell_X1_forget rfl rfl rfl (by decide +kernel) ⟨Nat.le_of_ble_eq_true rfl, Nat.le_of_ble_eq_true rfl⟩) STC_ok hst hK hw (eC_len.trans eC_len.symm) eC_c12 rfl rfl hl.1 rfl (Nat.le_of_ble_eq_true rfl) dX11_tell_77 ⟨Nat.zero_le _, Nat.zero_le _⟩ (fun H locs hw => ?_)
      have hw : Wo D ad (Aw ad 124 s.heap.size) (eC ad adE y m_out (t_texts (Int32.toNatClampNeg p1)) 0 a_bytes q11.2.1 q11.2.2.1 q11.2.2.2.1 q11.2.2.2.2.1 (va_up t_texts (Int32.toNatClampNeg p1) t_draft) q11.2.2.2.2.2.1 q11.2.2.2.2.2.2.1 q11.2.2.2.2.2.2.2.1 q11.2.2.2.2.2.2.2.2.1 q11.2.2.2.2.2.2.2.2.2.1 q11.2.2.2.2.2.2.2.2.2.2.1 q11.2.2.2.2.2.2.2.2.2.2.2.1 m_heard m_qsize q16.1 m_way q16.2.1 q16.2.2 m_nodes m_lsize a_tails a_heads a_gaps a_least m_csize a_ctails a_cheads a_cgaps a_leftOut a_qrow a_line q11.2.2.2.2.2.2.2.2.2.2.2.2.1 q11.2.2.2.2.2.2.2.2.2.2.2.2.2.1 q11.2.2.2.2.2.2.2.2.2.2.2.2.2.2.1 q11.2.2.2.2.2.2.2.2.2.2.2.2.2.2.2.1 q11.2.2.2.2.2.2.2.2.2.2.2.2.2.2.2.2.1 q11.2.2.2.2.2.2.2.2.2.2.2.2.2.2.2.2.2.1 q11.2.2.2.2.2.2.2.2.2.2.2.2.2.2.2.2.2.2) s.heap H locs := hw
      refine lv_aload_n hx hb dX11_tell_80 rfl (lv_at hl 2 rfl) ?_
      refine g_get hx hb hts i_X11 hown hK hw 0 eC_c0 rfl 2 (by decide) L_25 (fun _ h => h) rfl dX11_tell_81 ?_
      refine lv_iload_n hx hb dX11_tell_84 rfl (lv_at hl 3 rfl) ?_
      obtain ⟨g17, hf⟩ := gIn_some hf
      refine g_aald hx hb hK hw 6 4 eC_c6 rfl g17 dX11_tell_85 rfl ?_
      obtain ⟨g18, hf⟩ := gN_some hf
      refine g_get hx hb hts i_X8 hown hK hw (26 + ((va_up t_texts (Int32.toNatClampNeg p1) t_draft) (Int32.toNatClampNeg p1))) (eC_T g18) rfl 1 (by decide) L_84 (fun _ h => h) rfl dX11_tell_86 ?_
      obtain rfl := so hf
      exact g_retX hx hb hr hlocks hw dX11_tell_89 rfl
    · have hf := it_p c12 hf
      refine lv_iconst (v := (-1)) hx hb dX11_tell_41 (by decide) ?_
      refine lv_aload_n hx hb dX11_tell_42 rfl (lv_at hl 1 rfl) ?_
      refine g_get hx hb hts i_X11 hown hK hw 0 eC_c0 rfl 3 (by decide) L_39 (fun _ h => h) rfl dX11_tell_43 ?_
      refine g_get hx hb hts i_X5 hown hK hw 7 eC_c7 rfl 5 (by decide) L_78 (fun _ h => h) rfl dX11_tell_46 ?_
      refine lv_isub hx hb dX11_tell_49 ?_
      obtain rfl := so hf
      exact g_retX hx hb hr hlocks hw dX11_tell_50 rfl
  · have hf := it_p c10 hf
    obtain rfl := so hf
    exact g_thr (ws := wsX11_tell) (ik := 67) (ic := 71) (E := exI) 0 (by decide) hx hb htr hown hlocks hno hts (Or.inl ⟨rfl, rfl, rfl⟩) hk_1.1 hk_1.2.1 hk_1.2.2 hsx hw (hl.1.trans hml.symm) dX11_tell_7 dX11_tell_10 dX11_tell_11 dX11_tell_13 dX11_tell_16 ⟨by decide, by decide, by decide, by decide⟩
set_option maxHeartbeats 4000000 in
theorem k_X11_tell {l : Launch} (htr : l.stackTraces = false) {D : va_G} {ad : Nat → Nat} {y : Nat → ClassId} {adE adK adV : Nat → Nat} {tkA swA : Nat} {sa : Nat → Nat} {m_out : Int32} {t_draft : Nat} {m_tlen : Int32} {a_bytes : Nat → Int32} {m_nsize : Int32} {m_drafted : Int32} {a_letters : Nat → Int32} {a_nlen : Nat → Int32} {t_texts : Nat → Nat} {m_here : Int32} {m_fkind : Int32} {m_fplace : Int32} {m_toks : Int32} {t_types : Nat → Nat} {a_starts : Nat → Int32} {a_tlens : Nat → Int32} {m_heard : Int32} {m_qsize : Int32} {m_wayKnown : Int32} {m_way : Int32} {m_qKnown : Int32} {m_lineKnown : Int32} {m_nodes : Int32} {m_lsize : Int32} {a_tails : Nat → Int32} {a_heads : Nat → Int32} {a_gaps : Nat → Int32} {a_least : Nat → Int32} {m_csize : Int32} {a_ctails : Nat → Int32} {a_cheads : Nat → Int32} {a_cgaps : Nat → Int32} {a_leftOut : Nat → Int32} {a_qrow : Nat → Int32} {a_line : Nat → Int32} {a_tsize : Nat → Int32} {t_word : Nat → Nat} {a_own : Nat → Int32} {a_oth : Nat → Int32} {a_fst : Nat → Int32} {a_snd : Nat → Int32} {a_plc : Nat → Int32} {p1 : Int32} {res : (Int32 × Nat × Int32 × Int32 × Int32 × (Nat → Int32) × (Nat → Int32) × (Nat → Nat) × Int32 × Int32 × Int32 × Int32 × (Nat → Nat) × (Nat → Int32) × (Nat → Int32) × Int32 × Int32 × Int32 × (Nat → Int32) × (Nat → Nat) × (Nat → Int32) × (Nat → Int32) × (Nat → Int32) × (Nat → Int32) × (Nat → Int32)) ⊕ (Nat × Nat × Int32 × Int32 × Int32 × (Nat → Int32) × (Nat → Int32) × (Nat → Nat) × Int32 × Int32 × Int32 × Int32 × (Nat → Nat) × (Nat → Int32) × (Nat → Int32) × Int32 × Int32 × Int32 × (Nat → Int32) × (Nat → Nat) × (Nat → Int32) × (Nat → Int32) × (Nat → Int32) × (Nat → Int32) × (Nat → Int32))} (hf : f_X11_tell t_draft m_tlen a_bytes m_nsize m_drafted a_letters a_nlen t_texts m_here m_fkind m_fplace m_toks t_types a_starts a_tlens m_wayKnown m_qKnown m_lineKnown a_tsize t_word a_own a_oth a_fst a_snd a_plc p1 = some res) : CTX l yX11_tell wsX11_tell rm_X11_tell D ad 124 (tyL y) (STX ad adE adK adV tkA swA sa) (eC ad adE y m_out t_draft m_tlen a_bytes m_nsize m_drafted a_letters a_nlen t_texts m_here m_fkind m_fplace m_toks t_types a_starts a_tlens m_heard m_qsize m_wayKnown m_way m_qKnown m_lineKnown m_nodes m_lsize a_tails a_heads a_gaps a_least m_csize a_ctails a_cheads a_cgaps a_leftOut a_qrow a_line a_tsize t_word a_own a_oth a_fst a_snd a_plc) [.ref (ad 0), .int p1] (rx_X11_tell ad y adE m_out a_bytes m_heard m_qsize m_way m_nodes m_lsize a_tails a_heads a_gaps a_least m_csize a_ctails a_cheads a_cgaps a_leftOut a_qrow a_line res) := by
  intro sz
  refine vx_ofW (cc := cX11_tell) (maxL := 4) (ret := (some .int)) (by decide) rfl ?_
  intro p e s m args below meth c s₁ B hml hno hv
  obtain ⟨rfl, hsz, hP, hK, hD0, hst⟩ := hv
  subst hsz
  have C0 : CXT wsX11_tell cX11_tell RX11 4 (some .int) D (tyL y) (STX ad adE adK adV tkA swA sa) p s m ([.ref (ad 0), .int p1] : List Value).toArray meth c ∧ (∀ x ∈ c.exceptionTable.toList, False) ∧ l.stackTraces = false := ⟨⟨B.exec, B.bytes, B.returns, hml, findClass_of_methodNamed B.named, atoms_spec (ws := wsX11_tell) B.pre, B.notSynchronized, hK, hst⟩, hno, htr⟩
  have hw := g_start (n := 124) eC_len hP hD0
  have hl := lv_entry ([.ref (ad 0), .int p1]) (n := 4) (Nat.le_of_ble_eq_true rfl)
  rw [lg_entry_eq]
  generalize (lg_sl ([.ref (ad 0), .int p1]) ++ List.replicate (4 - (lg_sl ([.ref (ad 0), .int p1])).length) Slot.unset).toArray = ls at hl ⊢
  have hl : lv_has ls 4 [(0, .ref (ad 0)), (1, .int p1)] := hl
  exact ke_X11_tell C0 hf hw hl
