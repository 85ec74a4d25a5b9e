/-! the law's wrappers, walked -/
def STL (ad adE adK adV : Nat → Nat) (tkA swA : Nat) (sa : Nat → Nat) (U : State) (H : Heap) : Prop := STX ad adE adK adV tkA swA sa U H ∧ va_Nc exS exI U
theorem AL_all {ad : Nat → Nat} {ao sz : Nat} {ce : List va_E} {x : va_E} (h : va_D (fun _ => True) ((ao, x) :: wls ad ce)) : va_D (AL ad ce.length ao sz) ((ao, x) :: wls ad ce) := by
  refine h.weaken (fun k q hk _ => ?_)
  cases k with
  | zero => cases hk; exact Or.inr rfl
  | succ k => obtain ⟨h1, h2⟩ := wls_ad (show (wls ad ce)[k]? = some q from hk); exact Or.inl (Or.inl ⟨k, h1, h2⟩)
abbrev rm_L_tell : Room := { frames := 10, cells := 1, slots := 6, locals := 226 }
set_option maxHeartbeats 4000000 in
set_option maxRecDepth 100000 in
theorem k_L_tell {l : Launch} (htr : l.stackTraces = false) {D : va_G} {ad : Nat → Nat} {y : Nat → ClassId} {adE adK adV : Nat → Nat} {tkA swA : Nat} {sa : Nat → Nat} {ao : Nat} {o : Nat → Int64} {m_out : Int32} {t_draft : Nat} {m_tlen : Int32} {a_bytes : Nat → Int32} {m_nsize : Int32} {m_drafted : Int32} {a_letters : Nat → Int32} {a_nlen : Nat → Int32} {t_texts : Nat → Nat} {m_here : Int32} {m_fkind : Int32} {m_fplace : Int32} {m_toks : Int32} {t_types : Nat → Nat} {a_starts : Nat → Int32} {a_tlens : Nat → Int32} {m_heard : Int32} {m_qsize : Int32} {m_wayKnown : Int32} {m_way : Int32} {m_qKnown : Int32} {m_lineKnown : Int32} {m_nodes : Int32} {m_lsize : Int32} {a_tails : Nat → Int32} {a_heads : Nat → Int32} {a_gaps : Nat → Int32} {a_least : Nat → Int32} {m_csize : Int32} {a_ctails : Nat → Int32} {a_cheads : Nat → Int32} {a_cgaps : Nat → Int32} {a_leftOut : Nat → Int32} {a_qrow : Nat → Int32} {a_line : Nat → Int32} {a_tsize : Nat → Int32} {t_word : Nat → Nat} {a_own : Nat → Int32} {a_oth : Nat → Int32} {a_fst : Nat → Int32} {a_snd : Nat → Int32} {a_plc : Nat → Int32} {p1 : Int32} {res : (Int32 × Nat × Int32 × Int32 × Int32 × (Nat → Int32) × (Nat → Int32) × (Nat → Nat) × Int32 × Int32 × Int32 × Int32 × (Nat → Nat) × (Nat → Int32) × (Nat → Int32) × Int32 × Int32 × Int32 × (Nat → Int32) × (Nat → Nat) × (Nat → Int32) × (Nat → Int32) × (Nat → Int32) × (Nat → Int32) × (Nat → Int32)) ⊕ (Nat × Nat × Int32 × Int32 × Int32 × (Nat → Int32) × (Nat → Int32) × (Nat → Nat) × Int32 × Int32 × Int32 × Int32 × (Nat → Nat) × (Nat → Int32) × (Nat → Int32) × Int32 × Int32 × Int32 × (Nat → Int32) × (Nat → Nat) × (Nat → Int32) × (Nat → Int32) × (Nat → Int32) × (Nat → Int32) × (Nat → Int32))} (hf : f_X11_tell t_draft m_tlen a_bytes m_nsize m_drafted a_letters a_nlen t_texts m_here m_fkind m_fplace m_toks t_types a_starts a_tlens m_wayKnown m_qKnown m_lineKnown a_tsize t_word a_own a_oth a_fst a_snd a_plc p1 = some res) (hE : ∀ E ce', (rx_X11_tell ad y adE m_out a_bytes m_heard m_qsize m_way m_nodes m_lsize a_tails a_heads a_gaps a_least m_csize a_ctails a_cheads a_cgaps a_leftOut a_qrow a_line res) = .inr (E, ce') → E = exI) : CTL l yL_tell wsL_tell rm_L_tell D ad 124 (tyL y) (STL ad adE adK adV tkA swA sa) (eC ad adE y m_out t_draft m_tlen a_bytes m_nsize m_drafted a_letters a_nlen t_texts m_here m_fkind m_fplace m_toks t_types a_starts a_tlens m_heard m_qsize m_wayKnown m_way m_qKnown m_lineKnown m_nodes m_lsize a_tails a_heads a_gaps a_least m_csize a_ctails a_cheads a_cgaps a_leftOut a_qrow a_line a_tsize t_word a_own a_oth a_fst a_snd a_plc) ao (y 3) o [.ref (ad 0), .int p1, .ref ao] (wrO 1 0 (rx_X11_tell ad y adE m_out a_bytes m_heard m_qsize m_way m_nodes m_lsize a_tails a_heads a_gaps a_least m_csize a_ctails a_cheads a_cgaps a_leftOut a_qrow a_line res) o) := by
  intro sz
  refine va_MetW (cc := cL_tell) (maxL := 4) (ret := some .int) (hh := [(0, 9, 12, 13)]) (by decide) rfl ?_
  intro p e s m args below meth c s₁ B hml hv
  obtain ⟨rfl, hsz, hP, hK, hD0, hst⟩ := hv
  subst hsz
  have hx := B.exec
  have hb := B.bytes
  have hr := B.returns
  have hlocks := B.notSynchronized
  have hown : s.vm.findClass RL = some m.cls := findClass_of_methodNamed B.named
  have hts := atoms_spec (ws := wsL_tell) B.pre
  have htab : c.exceptionTable.toList = [⟨0, 9, 12, 13⟩] := vx_table (x := yL_tell) B (hts _ (show Cond.codeWith yL_tell cL_tell 4 (some .int) [(0, 9, 12, 13)] ∈ wsL_tell from List.mem_cons_self))
  have hw : Wl D ad 124 ao (y 3) (eC ad adE y m_out t_draft m_tlen a_bytes m_nsize m_drafted a_letters a_nlen t_texts m_here m_fkind m_fplace m_toks t_types a_starts a_tlens m_heard m_qsize m_wayKnown m_way m_qKnown m_lineKnown m_nodes m_lsize a_tails a_heads a_gaps a_least m_csize a_ctails a_cheads a_cgaps a_leftOut a_qrow a_line a_tsize t_word a_own a_oth a_fst a_snd a_plc) o s.heap s.heap [] := ⟨hP, by have := AL_all (sz := s.heap.size) hD0; rw [eC_len] at this; exact this, va_S.rf⟩
  have hl := lv_entry ([.ref (ad 0), .int p1, .ref ao]) (n := 4) (Nat.le_of_ble_eq_true rfl)
  rw [lg_entry_eq]
  generalize (lg_sl ([.ref (ad 0), .int p1, .ref ao]) ++ List.replicate (4 - (lg_sl ([.ref (ad 0), .int p1, .ref ao])).length) Slot.unset).toArray = ls at hl ⊢
  have hl : lv_has ls 4 [(0, .ref (ad 0)), (1, .int p1), (2, .ref ao)] := hl
  refine lv_aload_n hx hb dL_tell_0 rfl (lv_at hl 2 rfl) ?_
  refine lv_iconst (v := 0) hx hb dL_tell_1 (by decide) ?_
  refine lv_aload_n hx hb dL_tell_2 rfl (lv_at hl 0 rfl) ?_
  refine lv_iload_n hx hb dL_tell_3 rfl (lv_at hl 1 rfl) ?_
  refine g_callX (As := [.int p1]) (rest := [.int 0, .ref ao]) ⟨hx, hb, hml, hown, hts⟩ (k_X11_tell htr hf) (cwV 1 hts gL_tell_X11_tell rfl rfl rfl (by decide +kernel) ⟨Nat.le_of_ble_eq_true rfl, Nat.le_of_ble_eq_true rfl⟩) STX_ok hst.1 hK eC_len hw eC_c0 rfl rfl hl.1 rfl (Nat.le_of_ble_eq_true rfl) dL_tell_4 ⟨Nat.le_of_ble_eq_true rfl, Nat.le_of_ble_eq_true rfl⟩ (fun r ce' er hn H locs hw => ?_) (fun E ce' er hn q9 cell H locs hw h1 h2 h3 => ?_) (by cases res <;> exact eC_len)
  · rw [er]
    refine lv_i2l hx hb dL_tell_7 rfl ?_
    refine g_lastL hx hb hK hw 3 rfl dL_tell_8 (fun H locs hw => ?_)
    refine lv_goto (tgt := 15) hx hb dL_tell_9 (by decide) ?_
    refine lv_iconst (v := 0) hx hb dL_tell_15 (by decide) ?_
    exact W.iret (v := 0) hx hb hr (fun t ht _ => g_endL hw t ht) hw.2.2.2.2 dL_tell_16
  · have hEE := hE E ce' er
    rw [er]
    subst hEE
    refine vx_catch (own := RL) (name := exI) hown [] ⟨0, 9, 12, 13⟩ [] htab (fun z hz => by cases hz) (by decide) (by decide) (hts (.classLink RL 13 exI) (by decide +kernel)) (va_Nw.use rfl (hst.1.2.1 (.castable exI exI) (by decide +kernel))) h1 h2 h3 ?_
    refine lv_astore_n (lv' := [(3, .ref q9), (0, .ref (ad 0)), (1, .int p1), (2, .ref ao)]) hx hb dL_tell_12 rfl hl (by decide) rfl (fun ls hl => ?_)
    refine lv_iconst (v := 1) hx hb dL_tell_13 (by decide) ?_
    exact W.iret (v := 1) hx hb hr (fun t ht _ => g_endL hw t ht) hw.2.2.2.2 dL_tell_14
abbrev rm_L_saying : Room := { frames := 7, cells := 1, slots := 6, locals := 106 }
set_option maxHeartbeats 4000000 in
set_option maxRecDepth 100000 in
theorem k_L_saying {l : Launch} (htr : l.stackTraces = false) {D : va_G} {ad : Nat → Nat} {y : Nat → ClassId} {adE adK adV : Nat → Nat} {tkA swA : Nat} {sa : Nat → Nat} {ao : Nat} {o : Nat → Int64} {m_out : Int32} {t_draft : Nat} {m_tlen : Int32} {a_bytes : Nat → Int32} {m_nsize : Int32} {m_drafted : Int32} {a_letters : Nat → Int32} {a_nlen : Nat → Int32} {t_texts : Nat → Nat} {m_here : Int32} {m_fkind : Int32} {m_fplace : Int32} {m_toks : Int32} {t_types : Nat → Nat} {a_starts : Nat → Int32} {a_tlens : Nat → Int32} {m_heard : Int32} {m_qsize : Int32} {m_wayKnown : Int32} {m_way : Int32} {m_qKnown : Int32} {m_lineKnown : Int32} {m_nodes : Int32} {m_lsize : Int32} {a_tails : Nat → Int32} {a_heads : Nat → Int32} {a_gaps : Nat → Int32} {a_least : Nat → Int32} {m_csize : Int32} {a_ctails : Nat → Int32} {a_cheads : Nat → Int32} {a_cgaps : Nat → Int32} {a_leftOut : Nat → Int32} {a_qrow : Nat → Int32} {a_line : Nat → Int32} {a_tsize : Nat → Int32} {t_word : Nat → Nat} {a_own : Nat → Int32} {a_oth : Nat → Int32} {a_fst : Nat → Int32} {a_snd : Nat → Int32} {a_plc : Nat → Int32} {p1 : Int32} {p2 : Int32} {p3 : Int32} {res : (Int32) ⊕ (Nat)} (hf : f_X11_saying t_texts a_tsize t_word a_own a_oth a_fst a_snd a_plc p1 p2 p3 = some res) (hE : ∀ E ce', (rx_X11_saying ad y adE m_out t_draft m_tlen a_bytes m_nsize m_drafted a_letters a_nlen t_texts m_here m_fkind m_fplace m_toks t_types a_starts a_tlens m_heard m_qsize m_wayKnown m_way m_qKnown m_lineKnown m_nodes m_lsize a_tails a_heads a_gaps a_least m_csize a_ctails a_cheads a_cgaps a_leftOut a_qrow a_line a_tsize t_word a_own a_oth a_fst a_snd a_plc res) = .inr (E, ce') → E = exI ∨ E = exS) : CTL l yL_saying wsL_saying rm_L_saying D ad 124 (tyL y) (STL ad adE adK adV tkA swA sa) (eC ad adE y m_out t_draft m_tlen a_bytes m_nsize m_drafted a_letters a_nlen t_texts m_here m_fkind m_fplace m_toks t_types a_starts a_tlens m_heard m_qsize m_wayKnown m_way m_qKnown m_lineKnown m_nodes m_lsize a_tails a_heads a_gaps a_least m_csize a_ctails a_cheads a_cgaps a_leftOut a_qrow a_line a_tsize t_word a_own a_oth a_fst a_snd a_plc) ao (y 3) o [.ref (ad 0), .int p1, .int p2, .int p3, .ref ao] (wrO 1 2 (rx_X11_saying ad y adE m_out t_draft m_tlen a_bytes m_nsize m_drafted a_letters a_nlen t_texts m_here m_fkind m_fplace m_toks t_types a_starts a_tlens m_heard m_qsize m_wayKnown m_way m_qKnown m_lineKnown m_nodes m_lsize a_tails a_heads a_gaps a_least m_csize a_ctails a_cheads a_cgaps a_leftOut a_qrow a_line a_tsize t_word a_own a_oth a_fst a_snd a_plc res) o) := by
  intro sz
  refine va_MetW (cc := cL_saying) (maxL := 6) (ret := some .int) (hh := [(0, 12, 15, 13), (0, 12, 19, 19)]) (by decide) rfl ?_
  intro p e s m args below meth c s₁ B hml hv
  obtain ⟨rfl, hsz, hP, hK, hD0, hst⟩ := hv
  subst hsz
  have hx := B.exec
  have hb := B.bytes
  have hr := B.returns
  have hlocks := B.notSynchronized
  have hown : s.vm.findClass RL = some m.cls := findClass_of_methodNamed B.named
  have hts := atoms_spec (ws := wsL_saying) B.pre
  have htab : c.exceptionTable.toList = [⟨0, 12, 15, 13⟩, ⟨0, 12, 19, 19⟩] := vx_table (x := yL_saying) B (hts _ (show Cond.codeWith yL_saying cL_saying 6 (some .int) [(0, 12, 15, 13), (0, 12, 19, 19)] ∈ wsL_saying from List.mem_cons_self))
  have hw : Wl D ad 124 ao (y 3) (eC ad adE y m_out t_draft m_tlen a_bytes m_nsize m_drafted a_letters a_nlen t_texts m_here m_fkind m_fplace m_toks t_types a_starts a_tlens m_heard m_qsize m_wayKnown m_way m_qKnown m_lineKnown m_nodes m_lsize a_tails a_heads a_gaps a_least m_csize a_ctails a_cheads a_cgaps a_leftOut a_qrow a_line a_tsize t_word a_own a_oth a_fst a_snd a_plc) o s.heap s.heap [] := ⟨hP, by have := AL_all (sz := s.heap.size) hD0; rw [eC_len] at this; exact this, va_S.rf⟩
  have hl := lv_entry ([.ref (ad 0), .int p1, .int p2, .int p3, .ref ao]) (n := 6) (Nat.le_of_ble_eq_true rfl)
  rw [lg_entry_eq]
  generalize (lg_sl ([.ref (ad 0), .int p1, .int p2, .int p3, .ref ao]) ++ List.replicate (6 - (lg_sl ([.ref (ad 0), .int p1, .int p2, .int p3, .ref ao])).length) Slot.unset).toArray = ls at hl ⊢
  have hl : lv_has ls 6 [(0, .ref (ad 0)), (1, .int p1), (2, .int p2), (3, .int p3), (4, .ref ao)] := hl
  refine lv_aload hx hb dL_saying_0 (lv_at hl 4 rfl) ?_
  refine lv_iconst (v := 0) hx hb dL_saying_2 (by decide) ?_
  refine lv_aload_n hx hb dL_saying_3 rfl (lv_at hl 0 rfl) ?_
  refine lv_iload_n hx hb dL_saying_4 rfl (lv_at hl 1 rfl) ?_
  refine lv_iload_n hx hb dL_saying_5 rfl (lv_at hl 2 rfl) ?_
  refine lv_iload_n hx hb dL_saying_6 rfl (lv_at hl 3 rfl) ?_
  refine g_callX (As := [.int p1, .int p2, .int p3]) (rest := [.int 0, .ref ao]) ⟨hx, hb, hml, hown, hts⟩ (k_X11_saying htr hf) (cwV 3 hts gL_saying_X11_saying rfl rfl rfl (by decide +kernel) ⟨Nat.le_of_ble_eq_true rfl, Nat.le_of_ble_eq_true rfl⟩) STX_ok hst.1 hK eC_len hw eC_c0 rfl rfl hl.1 rfl (Nat.le_of_ble_eq_true rfl) dL_saying_7 ⟨Nat.le_of_ble_eq_true rfl, Nat.le_of_ble_eq_true rfl⟩ (fun r ce' er hn H locs hw => ?_) (fun E ce' er hn q9 cell H locs hw h1 h2 h3 => ?_) (by cases res <;> exact eC_len)
  · rw [er]
    refine lv_i2l hx hb dL_saying_10 rfl ?_
    refine g_lastL hx hb hK hw 3 rfl dL_saying_11 (fun H locs hw => ?_)
    refine lv_goto (tgt := 23) hx hb dL_saying_12 (by decide) ?_
    refine lv_iconst (v := 0) hx hb dL_saying_23 (by decide) ?_
    exact W.iret (v := 0) hx hb hr (fun t ht _ => g_endL hw t ht) hw.2.2.2.2 dL_saying_24
  · have hEE := hE E ce' er
    rw [er]
    rcases hEE with rfl | rfl
    · refine vx_catch (own := RL) (name := exI) hown [] ⟨0, 12, 15, 13⟩ [⟨0, 12, 19, 19⟩] htab (fun z hz => by cases hz) (by decide) (by decide) (hts (.classLink RL 13 exI) (by decide +kernel)) (va_Nw.use rfl (hst.1.2.1 (.castable exI exI) (by decide +kernel))) h1 h2 h3 ?_
      refine lv_astore (lv' := [(5, .ref q9), (0, .ref (ad 0)), (1, .int p1), (2, .int p2), (3, .int p3), (4, .ref ao)]) hx hb dL_saying_15 hl (by decide) rfl (fun ls hl => ?_)
      refine lv_iconst (v := 1) hx hb dL_saying_17 (by decide) ?_
      exact W.iret (v := 1) hx hb hr (fun t ht _ => g_endL hw t ht) hw.2.2.2.2 dL_saying_18
    · refine vx_catch (own := RL) (name := exS) hown [⟨0, 12, 15, 13⟩] ⟨0, 12, 19, 19⟩ [] htab (fun z hz => by rw [List.mem_singleton] at hz; subst hz; exact Or.inr ⟨by decide, exI, hts (.classLink RL 13 exI) (by decide +kernel), hst.2⟩) (by decide) (by decide) (hts (.classLink RL 19 exS) (by decide +kernel)) (va_Nw.use rfl (hst.1.2.1 (.castable exS exS) (by decide +kernel))) h1 h2 h3 ?_
      refine lv_astore (lv' := [(5, .ref q9), (0, .ref (ad 0)), (1, .int p1), (2, .int p2), (3, .int p3), (4, .ref ao)]) hx hb dL_saying_19 hl (by decide) rfl (fun ls hl => ?_)
      refine lv_iconst (v := 2) hx hb dL_saying_21 (by decide) ?_
      exact W.iret (v := 2) hx hb hr (fun t ht _ => g_endL hw t ht) hw.2.2.2.2 dL_saying_22
abbrev rm_L_octet : Room := { frames := 7, cells := 1, slots := 6, locals := 103 }
set_option maxHeartbeats 4000000 in
set_option maxRecDepth 100000 in
theorem k_L_octet {l : Launch} (htr : l.stackTraces = false) {D : va_G} {ad : Nat → Nat} {y : Nat → ClassId} {adE adK adV : Nat → Nat} {tkA swA : Nat} {sa : Nat → Nat} {ao : Nat} {o : Nat → Int64} {m_out : Int32} {t_draft : Nat} {m_tlen : Int32} {a_bytes : Nat → Int32} {m_nsize : Int32} {m_drafted : Int32} {a_letters : Nat → Int32} {a_nlen : Nat → Int32} {t_texts : Nat → Nat} {m_here : Int32} {m_fkind : Int32} {m_fplace : Int32} {m_toks : Int32} {t_types : Nat → Nat} {a_starts : Nat → Int32} {a_tlens : Nat → Int32} {m_heard : Int32} {m_qsize : Int32} {m_wayKnown : Int32} {m_way : Int32} {m_qKnown : Int32} {m_lineKnown : Int32} {m_nodes : Int32} {m_lsize : Int32} {a_tails : Nat → Int32} {a_heads : Nat → Int32} {a_gaps : Nat → Int32} {a_least : Nat → Int32} {m_csize : Int32} {a_ctails : Nat → Int32} {a_cheads : Nat → Int32} {a_cgaps : Nat → Int32} {a_leftOut : Nat → Int32} {a_qrow : Nat → Int32} {a_line : Nat → Int32} {a_tsize : Nat → Int32} {t_word : Nat → Nat} {a_own : Nat → Int32} {a_oth : Nat → Int32} {a_fst : Nat → Int32} {a_snd : Nat → Int32} {a_plc : Nat → Int32} {p1 : Int32} {res : (Int32) ⊕ (Nat)} (hf : f_X11_octet m_out m_nsize a_letters a_nlen p1 = some res) (hE : ∀ E ce', (rx_X11_octet ad y adE m_out t_draft m_tlen a_bytes m_nsize m_drafted a_letters a_nlen t_texts m_here m_fkind m_fplace m_toks t_types a_starts a_tlens m_heard m_qsize m_wayKnown m_way m_qKnown m_lineKnown m_nodes m_lsize a_tails a_heads a_gaps a_least m_csize a_ctails a_cheads a_cgaps a_leftOut a_qrow a_line a_tsize t_word a_own a_oth a_fst a_snd a_plc res) = .inr (E, ce') → E = exS) : CTL l yL_octet wsL_octet rm_L_octet D ad 124 (tyL y) (STL ad adE adK adV tkA swA sa) (eC ad adE y m_out t_draft m_tlen a_bytes m_nsize m_drafted a_letters a_nlen t_texts m_here m_fkind m_fplace m_toks t_types a_starts a_tlens m_heard m_qsize m_wayKnown m_way m_qKnown m_lineKnown m_nodes m_lsize a_tails a_heads a_gaps a_least m_csize a_ctails a_cheads a_cgaps a_leftOut a_qrow a_line a_tsize t_word a_own a_oth a_fst a_snd a_plc) ao (y 3) o [.ref (ad 0), .int p1, .ref ao] (wrO 0 1 (rx_X11_octet ad y adE m_out t_draft m_tlen a_bytes m_nsize m_drafted a_letters a_nlen t_texts m_here m_fkind m_fplace m_toks t_types a_starts a_tlens m_heard m_qsize m_wayKnown m_way m_qKnown m_lineKnown m_nodes m_lsize a_tails a_heads a_gaps a_least m_csize a_ctails a_cheads a_cgaps a_leftOut a_qrow a_line a_tsize t_word a_own a_oth a_fst a_snd a_plc res) o) := by
  intro sz
  refine va_MetW (cc := cL_octet) (maxL := 4) (ret := some .int) (hh := [(0, 9, 12, 19)]) (by decide) rfl ?_
  intro p e s m args below meth c s₁ B hml hv
  obtain ⟨rfl, hsz, hP, hK, hD0, hst⟩ := hv
  subst hsz
  have hx := B.exec
  have hb := B.bytes
  have hr := B.returns
  have hlocks := B.notSynchronized
  have hown : s.vm.findClass RL = some m.cls := findClass_of_methodNamed B.named
  have hts := atoms_spec (ws := wsL_octet) B.pre
  have htab : c.exceptionTable.toList = [⟨0, 9, 12, 19⟩] := vx_table (x := yL_octet) B (hts _ (show Cond.codeWith yL_octet cL_octet 4 (some .int) [(0, 9, 12, 19)] ∈ wsL_octet from List.mem_cons_self))
  have hw : Wl D ad 124 ao (y 3) (eC ad adE y m_out t_draft m_tlen a_bytes m_nsize m_drafted a_letters a_nlen t_texts m_here m_fkind m_fplace m_toks t_types a_starts a_tlens m_heard m_qsize m_wayKnown m_way m_qKnown m_lineKnown m_nodes m_lsize a_tails a_heads a_gaps a_least m_csize a_ctails a_cheads a_cgaps a_leftOut a_qrow a_line a_tsize t_word a_own a_oth a_fst a_snd a_plc) o s.heap s.heap [] := ⟨hP, by have := AL_all (sz := s.heap.size) hD0; rw [eC_len] at this; exact this, va_S.rf⟩
  have hl := lv_entry ([.ref (ad 0), .int p1, .ref ao]) (n := 4) (Nat.le_of_ble_eq_true rfl)
  rw [lg_entry_eq]
  generalize (lg_sl ([.ref (ad 0), .int p1, .ref ao]) ++ List.replicate (4 - (lg_sl ([.ref (ad 0), .int p1, .ref ao])).length) Slot.unset).toArray = ls at hl ⊢
  have hl : lv_has ls 4 [(0, .ref (ad 0)), (1, .int p1), (2, .ref ao)] := hl
  refine lv_aload_n hx hb dL_octet_0 rfl (lv_at hl 2 rfl) ?_
  refine lv_iconst (v := 0) hx hb dL_octet_1 (by decide) ?_
  refine lv_aload_n hx hb dL_octet_2 rfl (lv_at hl 0 rfl) ?_
  refine lv_iload_n hx hb dL_octet_3 rfl (lv_at hl 1 rfl) ?_
  refine g_callX (As := [.int p1]) (rest := [.int 0, .ref ao]) ⟨hx, hb, hml, hown, hts⟩ (k_X11_octet htr hf) (cwV 1 hts gL_octet_X11_octet rfl rfl rfl (by decide +kernel) ⟨Nat.le_of_ble_eq_true rfl, Nat.le_of_ble_eq_true rfl⟩) STX_ok hst.1 hK eC_len hw eC_c0 rfl rfl hl.1 rfl (Nat.le_of_ble_eq_true rfl) dL_octet_4 ⟨Nat.le_of_ble_eq_true rfl, Nat.le_of_ble_eq_true rfl⟩ (fun r ce' er hn H locs hw => ?_) (fun E ce' er hn q9 cell H locs hw h1 h2 h3 => ?_) (by cases res <;> exact eC_len)
  · rw [er]
    refine lv_i2l hx hb dL_octet_7 rfl ?_
    refine g_lastL hx hb hK hw 3 rfl dL_octet_8 (fun H locs hw => ?_)
    refine lv_goto (tgt := 15) hx hb dL_octet_9 (by decide) ?_
    refine lv_iconst (v := 0) hx hb dL_octet_15 (by decide) ?_
    exact W.iret (v := 0) hx hb hr (fun t ht _ => g_endL hw t ht) hw.2.2.2.2 dL_octet_16
  · have hEE := hE E ce' er
    rw [er]
    subst hEE
    refine vx_catch (own := RL) (name := exS) hown [] ⟨0, 9, 12, 19⟩ [] htab (fun z hz => by cases hz) (by decide) (by decide) (hts (.classLink RL 19 exS) (by decide +kernel)) (va_Nw.use rfl (hst.1.2.1 (.castable exS exS) (by decide +kernel))) h1 h2 h3 ?_
    refine lv_astore_n (lv' := [(3, .ref q9), (0, .ref (ad 0)), (1, .int p1), (2, .ref ao)]) hx hb dL_octet_12 rfl hl (by decide) rfl (fun ls hl => ?_)
    refine lv_iconst (v := 1) hx hb dL_octet_13 (by decide) ?_
    exact W.iret (v := 1) hx hb hr (fun t ht _ => g_endL hw t ht) hw.2.2.2.2 dL_octet_14
abbrev rm_L_between : Room := { frames := 7, cells := 1, slots := 6, locals := 136 }
set_option maxHeartbeats 4000000 in
set_option maxRecDepth 100000 in
theorem k_L_between {l : Launch} (htr : l.stackTraces = false) {D : va_G} {ad : Nat → Nat} {y : Nat → ClassId} {adE adK adV : Nat → Nat} {tkA swA : Nat} {sa : Nat → Nat} {ao : Nat} {o : Nat → Int64} {m_out : Int32} {t_draft : Nat} {m_tlen : Int32} {a_bytes : Nat → Int32} {m_nsize : Int32} {m_drafted : Int32} {a_letters : Nat → Int32} {a_nlen : Nat → Int32} {t_texts : Nat → Nat} {m_here : Int32} {m_fkind : Int32} {m_fplace : Int32} {m_toks : Int32} {t_types : Nat → Nat} {a_starts : Nat → Int32} {a_tlens : Nat → Int32} {m_heard : Int32} {m_qsize : Int32} {m_wayKnown : Int32} {m_way : Int32} {m_qKnown : Int32} {m_lineKnown : Int32} {m_nodes : Int32} {m_lsize : Int32} {a_tails : Nat → Int32} {a_heads : Nat → Int32} {a_gaps : Nat → Int32} {a_least : Nat → Int32} {m_csize : Int32} {a_ctails : Nat → Int32} {a_cheads : Nat → Int32} {a_cgaps : Nat → Int32} {a_leftOut : Nat → Int32} {a_qrow : Nat → Int32} {a_line : Nat → Int32} {a_tsize : Nat → Int32} {t_word : Nat → Nat} {a_own : Nat → Int32} {a_oth : Nat → Int32} {a_fst : Nat → Int32} {a_snd : Nat → Int32} {a_plc : Nat → Int32} {p1 : Int32} {p2 : Int32} {p3 : Int32} {res : (Int32 × Int32 × Int32 × Int32 × Int32 × (Nat → Int32) × (Nat → Int32) × (Nat → Int32) × (Nat → Int32)) ⊕ (Nat × Int32 × Int32 × Int32 × Int32 × (Nat → Int32) × (Nat → Int32) × (Nat → Int32) × (Nat → Int32))} (hf : f_X11_between m_nsize t_texts m_heard m_wayKnown m_way m_nodes m_lsize a_tails a_heads a_gaps a_least a_leftOut a_tsize t_word a_own a_oth a_fst a_snd p1 p2 p3 = some res) (hE : ∀ E ce', (rx_X11_between ad y adE m_out t_draft m_tlen a_bytes m_nsize m_drafted a_letters a_nlen t_texts m_here m_fkind m_fplace m_toks t_types a_starts a_tlens m_heard m_qsize m_qKnown m_lineKnown m_csize a_ctails a_cheads a_cgaps a_leftOut a_qrow a_line a_tsize t_word a_own a_oth a_fst a_snd a_plc res) = .inr (E, ce') → E = exS) : CTL l yL_between wsL_between rm_L_between D ad 124 (tyL y) (STL ad adE adK adV tkA swA sa) (eC ad adE y m_out t_draft m_tlen a_bytes m_nsize m_drafted a_letters a_nlen t_texts m_here m_fkind m_fplace m_toks t_types a_starts a_tlens m_heard m_qsize m_wayKnown m_way m_qKnown m_lineKnown m_nodes m_lsize a_tails a_heads a_gaps a_least m_csize a_ctails a_cheads a_cgaps a_leftOut a_qrow a_line a_tsize t_word a_own a_oth a_fst a_snd a_plc) ao (y 3) o [.ref (ad 0), .int p1, .int p2, .int p3, .ref ao] (wrO 0 1 (rx_X11_between ad y adE m_out t_draft m_tlen a_bytes m_nsize m_drafted a_letters a_nlen t_texts m_here m_fkind m_fplace m_toks t_types a_starts a_tlens m_heard m_qsize m_qKnown m_lineKnown m_csize a_ctails a_cheads a_cgaps a_leftOut a_qrow a_line a_tsize t_word a_own a_oth a_fst a_snd a_plc res) o) := by
  intro sz
  refine va_MetW (cc := cL_between) (maxL := 6) (ret := some .int) (hh := [(0, 12, 15, 19)]) (by decide) rfl ?_
  intro p e s m args below meth c s₁ B hml hv
  obtain ⟨rfl, hsz, hP, hK, hD0, hst⟩ := hv
  subst hsz
  have hx := B.exec
  have hb := B.bytes
  have hr := B.returns
  have hlocks := B.notSynchronized
  have hown : s.vm.findClass RL = some m.cls := findClass_of_methodNamed B.named
  have hts := atoms_spec (ws := wsL_between) B.pre
  have htab : c.exceptionTable.toList = [⟨0, 12, 15, 19⟩] := vx_table (x := yL_between) B (hts _ (show Cond.codeWith yL_between cL_between 6 (some .int) [(0, 12, 15, 19)] ∈ wsL_between from List.mem_cons_self))
  have hw : Wl D ad 124 ao (y 3) (eC ad adE y m_out t_draft m_tlen a_bytes m_nsize m_drafted a_letters a_nlen t_texts m_here m_fkind m_fplace m_toks t_types a_starts a_tlens m_heard m_qsize m_wayKnown m_way m_qKnown m_lineKnown m_nodes m_lsize a_tails a_heads a_gaps a_least m_csize a_ctails a_cheads a_cgaps a_leftOut a_qrow a_line a_tsize t_word a_own a_oth a_fst a_snd a_plc) o s.heap s.heap [] := ⟨hP, by have := AL_all (sz := s.heap.size) hD0; rw [eC_len] at this; exact this, va_S.rf⟩
  have hl := lv_entry ([.ref (ad 0), .int p1, .int p2, .int p3, .ref ao]) (n := 6) (Nat.le_of_ble_eq_true rfl)
  rw [lg_entry_eq]
  generalize (lg_sl ([.ref (ad 0), .int p1, .int p2, .int p3, .ref ao]) ++ List.replicate (6 - (lg_sl ([.ref (ad 0), .int p1, .int p2, .int p3, .ref ao])).length) Slot.unset).toArray = ls at hl ⊢
  have hl : lv_has ls 6 [(0, .ref (ad 0)), (1, .int p1), (2, .int p2), (3, .int p3), (4, .ref ao)] := hl
  refine lv_aload hx hb dL_between_0 (lv_at hl 4 rfl) ?_
  refine lv_iconst (v := 0) hx hb dL_between_2 (by decide) ?_
  refine lv_aload_n hx hb dL_between_3 rfl (lv_at hl 0 rfl) ?_
  refine lv_iload_n hx hb dL_between_4 rfl (lv_at hl 1 rfl) ?_
  refine lv_iload_n hx hb dL_between_5 rfl (lv_at hl 2 rfl) ?_
  refine lv_iload_n hx hb dL_between_6 rfl (lv_at hl 3 rfl) ?_
  refine g_callX (As := [.int p1, .int p2, .int p3]) (rest := [.int 0, .ref ao]) ⟨hx, hb, hml, hown, hts⟩ (k_X11_between htr hf) (cwV 3 hts gL_between_X11_between rfl rfl rfl (by decide +kernel) ⟨Nat.le_of_ble_eq_true rfl, Nat.le_of_ble_eq_true rfl⟩) STX_ok hst.1 hK eC_len hw eC_c0 rfl rfl hl.1 rfl (Nat.le_of_ble_eq_true rfl) dL_between_7 ⟨Nat.le_of_ble_eq_true rfl, Nat.le_of_ble_eq_true rfl⟩ (fun r ce' er hn H locs hw => ?_) (fun E ce' er hn q9 cell H locs hw h1 h2 h3 => ?_) (by cases res <;> exact eC_len)
  · rw [er]
    refine lv_i2l hx hb dL_between_10 rfl ?_
    refine g_lastL hx hb hK hw 3 rfl dL_between_11 (fun H locs hw => ?_)
    refine lv_goto (tgt := 19) hx hb dL_between_12 (by decide) ?_
    refine lv_iconst (v := 0) hx hb dL_between_19 (by decide) ?_
    exact W.iret (v := 0) hx hb hr (fun t ht _ => g_endL hw t ht) hw.2.2.2.2 dL_between_20
  · have hEE := hE E ce' er
    rw [er]
    subst hEE
    refine vx_catch (own := RL) (name := exS) hown [] ⟨0, 12, 15, 19⟩ [] htab (fun z hz => by cases hz) (by decide) (by decide) (hts (.classLink RL 19 exS) (by decide +kernel)) (va_Nw.use rfl (hst.1.2.1 (.castable exS exS) (by decide +kernel))) h1 h2 h3 ?_
    refine lv_astore (lv' := [(5, .ref q9), (0, .ref (ad 0)), (1, .int p1), (2, .int p2), (3, .int p3), (4, .ref ao)]) hx hb dL_between_15 hl (by decide) rfl (fun ls hl => ?_)
    refine lv_iconst (v := 1) hx hb dL_between_17 (by decide) ?_
    exact W.iret (v := 1) hx hb hr (fun t ht _ => g_endL hw t ht) hw.2.2.2.2 dL_between_18
abbrev rm_L_needless : Room := { frames := 7, cells := 1, slots := 6, locals := 132 }
set_option maxHeartbeats 4000000 in
set_option maxRecDepth 100000 in
theorem k_L_needless {l : Launch} (htr : l.stackTraces = false) {D : va_G} {ad : Nat → Nat} {y : Nat → ClassId} {adE adK adV : Nat → Nat} {tkA swA : Nat} {sa : Nat → Nat} {ao : Nat} {o : Nat → Int64} {m_out : Int32} {t_draft : Nat} {m_tlen : Int32} {a_bytes : Nat → Int32} {m_nsize : Int32} {m_drafted : Int32} {a_letters : Nat → Int32} {a_nlen : Nat → Int32} {t_texts : Nat → Nat} {m_here : Int32} {m_fkind : Int32} {m_fplace : Int32} {m_toks : Int32} {t_types : Nat → Nat} {a_starts : Nat → Int32} {a_tlens : Nat → Int32} {m_heard : Int32} {m_qsize : Int32} {m_wayKnown : Int32} {m_way : Int32} {m_qKnown : Int32} {m_lineKnown : Int32} {m_nodes : Int32} {m_lsize : Int32} {a_tails : Nat → Int32} {a_heads : Nat → Int32} {a_gaps : Nat → Int32} {a_least : Nat → Int32} {m_csize : Int32} {a_ctails : Nat → Int32} {a_cheads : Nat → Int32} {a_cgaps : Nat → Int32} {a_leftOut : Nat → Int32} {a_qrow : Nat → Int32} {a_line : Nat → Int32} {a_tsize : Nat → Int32} {t_word : Nat → Nat} {a_own : Nat → Int32} {a_oth : Nat → Int32} {a_fst : Nat → Int32} {a_snd : Nat → Int32} {a_plc : Nat → Int32} {p1 : Int32} {p2 : Int32} {res : (Int32 × Int32 × Int32 × Int32 × Int32 × (Nat → Int32) × (Nat → Int32) × (Nat → Int32) × (Nat → Int32) × Int32 × (Nat → Int32) × (Nat → Int32) × (Nat → Int32) × (Nat → Int32)) ⊕ (Nat × Int32 × Int32 × Int32 × Int32 × (Nat → Int32) × (Nat → Int32) × (Nat → Int32) × (Nat → Int32) × Int32 × (Nat → Int32) × (Nat → Int32) × (Nat → Int32) × (Nat → Int32))} (hf : f_X11_needless m_nsize t_texts m_heard m_wayKnown m_way m_nodes m_lsize a_tails a_heads a_gaps a_least m_csize a_ctails a_cheads a_cgaps a_leftOut a_tsize t_word a_own a_oth a_fst a_snd p1 p2 = some res) (hE : ∀ E ce', (rx_X11_needless ad y adE m_out t_draft m_tlen a_bytes m_nsize m_drafted a_letters a_nlen t_texts m_here m_fkind m_fplace m_toks t_types a_starts a_tlens m_heard m_qsize m_qKnown m_lineKnown a_qrow a_line a_tsize t_word a_own a_oth a_fst a_snd a_plc res) = .inr (E, ce') → E = exI) : CTL l yL_needless wsL_needless rm_L_needless D ad 124 (tyL y) (STL ad adE adK adV tkA swA sa) (eC ad adE y m_out t_draft m_tlen a_bytes m_nsize m_drafted a_letters a_nlen t_texts m_here m_fkind m_fplace m_toks t_types a_starts a_tlens m_heard m_qsize m_wayKnown m_way m_qKnown m_lineKnown m_nodes m_lsize a_tails a_heads a_gaps a_least m_csize a_ctails a_cheads a_cgaps a_leftOut a_qrow a_line a_tsize t_word a_own a_oth a_fst a_snd a_plc) ao (y 3) o [.ref (ad 0), .int p1, .int p2, .ref ao] (wrO 1 0 (rx_X11_needless ad y adE m_out t_draft m_tlen a_bytes m_nsize m_drafted a_letters a_nlen t_texts m_here m_fkind m_fplace m_toks t_types a_starts a_tlens m_heard m_qsize m_qKnown m_lineKnown a_qrow a_line a_tsize t_word a_own a_oth a_fst a_snd a_plc res) o) := by
  intro sz
  refine va_MetW (cc := cL_needless) (maxL := 5) (ret := some .int) (hh := [(0, 10, 13, 13)]) (by decide) rfl ?_
  intro p e s m args below meth c s₁ B hml hv
  obtain ⟨rfl, hsz, hP, hK, hD0, hst⟩ := hv
  subst hsz
  have hx := B.exec
  have hb := B.bytes
  have hr := B.returns
  have hlocks := B.notSynchronized
  have hown : s.vm.findClass RL = some m.cls := findClass_of_methodNamed B.named
  have hts := atoms_spec (ws := wsL_needless) B.pre
  have htab : c.exceptionTable.toList = [⟨0, 10, 13, 13⟩] := vx_table (x := yL_needless) B (hts _ (show Cond.codeWith yL_needless cL_needless 5 (some .int) [(0, 10, 13, 13)] ∈ wsL_needless from List.mem_cons_self))
  have hw : Wl D ad 124 ao (y 3) (eC ad adE y m_out t_draft m_tlen a_bytes m_nsize m_drafted a_letters a_nlen t_texts m_here m_fkind m_fplace m_toks t_types a_starts a_tlens m_heard m_qsize m_wayKnown m_way m_qKnown m_lineKnown m_nodes m_lsize a_tails a_heads a_gaps a_least m_csize a_ctails a_cheads a_cgaps a_leftOut a_qrow a_line a_tsize t_word a_own a_oth a_fst a_snd a_plc) o s.heap s.heap [] := ⟨hP, by have := AL_all (sz := s.heap.size) hD0; rw [eC_len] at this; exact this, va_S.rf⟩
  have hl := lv_entry ([.ref (ad 0), .int p1, .int p2, .ref ao]) (n := 5) (Nat.le_of_ble_eq_true rfl)
  rw [lg_entry_eq]
  generalize (lg_sl ([.ref (ad 0), .int p1, .int p2, .ref ao]) ++ List.replicate (5 - (lg_sl ([.ref (ad 0), .int p1, .int p2, .ref ao])).length) Slot.unset).toArray = ls at hl ⊢
  have hl : lv_has ls 5 [(0, .ref (ad 0)), (1, .int p1), (2, .int p2), (3, .ref ao)] := hl
  refine lv_aload_n hx hb dL_needless_0 rfl (lv_at hl 3 rfl) ?_
  refine lv_iconst (v := 0) hx hb dL_needless_1 (by decide) ?_
  refine lv_aload_n hx hb dL_needless_2 rfl (lv_at hl 0 rfl) ?_
  refine lv_iload_n hx hb dL_needless_3 rfl (lv_at hl 1 rfl) ?_
  refine lv_iload_n hx hb dL_needless_4 rfl (lv_at hl 2 rfl) ?_
  refine g_callX (As := [.int p1, .int p2]) (rest := [.int 0, .ref ao]) ⟨hx, hb, hml, hown, hts⟩ (k_X11_needless htr hf) (cwV 2 hts gL_needless_X11_needless rfl rfl rfl (by decide +kernel) ⟨Nat.le_of_ble_eq_true rfl, Nat.le_of_ble_eq_true rfl⟩) STX_ok hst.1 hK eC_len hw eC_c0 rfl rfl hl.1 rfl (Nat.le_of_ble_eq_true rfl) dL_needless_5 ⟨Nat.le_of_ble_eq_true rfl, Nat.le_of_ble_eq_true rfl⟩ (fun r ce' er hn H locs hw => ?_) (fun E ce' er hn q9 cell H locs hw h1 h2 h3 => ?_) (by cases res <;> exact eC_len)
  · rw [er]
    refine lv_i2l hx hb dL_needless_8 rfl ?_
    refine g_lastL hx hb hK hw 3 rfl dL_needless_9 (fun H locs hw => ?_)
    refine lv_goto (tgt := 17) hx hb dL_needless_10 (by decide) ?_
    refine lv_iconst (v := 0) hx hb dL_needless_17 (by decide) ?_
    exact W.iret (v := 0) hx hb hr (fun t ht _ => g_endL hw t ht) hw.2.2.2.2 dL_needless_18
  · have hEE := hE E ce' er
    rw [er]
    subst hEE
    refine vx_catch (own := RL) (name := exI) hown [] ⟨0, 10, 13, 13⟩ [] htab (fun z hz => by cases hz) (by decide) (by decide) (hts (.classLink RL 13 exI) (by decide +kernel)) (va_Nw.use rfl (hst.1.2.1 (.castable exI exI) (by decide +kernel))) h1 h2 h3 ?_
    refine lv_astore (lv' := [(4, .ref q9), (0, .ref (ad 0)), (1, .int p1), (2, .int p2), (3, .ref ao)]) hx hb dL_needless_13 hl (by decide) rfl (fun ls hl => ?_)
    refine lv_iconst (v := 1) hx hb dL_needless_15 (by decide) ?_
    exact W.iret (v := 1) hx hb hr (fun t ht _ => g_endL hw t ht) hw.2.2.2.2 dL_needless_16
abbrev rm_L_sayings : Room := { frames := 7, cells := 1, slots := 6, locals := 103 }
set_option maxHeartbeats 4000000 in
set_option maxRecDepth 100000 in
theorem k_L_sayings {l : Launch} (htr : l.stackTraces = false) {D : va_G} {ad : Nat → Nat} {y : Nat → ClassId} {adE adK adV : Nat → Nat} {tkA swA : Nat} {sa : Nat → Nat} {ao : Nat} {o : Nat → Int64} {m_out : Int32} {t_draft : Nat} {m_tlen : Int32} {a_bytes : Nat → Int32} {m_nsize : Int32} {m_drafted : Int32} {a_letters : Nat → Int32} {a_nlen : Nat → Int32} {t_texts : Nat → Nat} {m_here : Int32} {m_fkind : Int32} {m_fplace : Int32} {m_toks : Int32} {t_types : Nat → Nat} {a_starts : Nat → Int32} {a_tlens : Nat → Int32} {m_heard : Int32} {m_qsize : Int32} {m_wayKnown : Int32} {m_way : Int32} {m_qKnown : Int32} {m_lineKnown : Int32} {m_nodes : Int32} {m_lsize : Int32} {a_tails : Nat → Int32} {a_heads : Nat → Int32} {a_gaps : Nat → Int32} {a_least : Nat → Int32} {m_csize : Int32} {a_ctails : Nat → Int32} {a_cheads : Nat → Int32} {a_cgaps : Nat → Int32} {a_leftOut : Nat → Int32} {a_qrow : Nat → Int32} {a_line : Nat → Int32} {a_tsize : Nat → Int32} {t_word : Nat → Nat} {a_own : Nat → Int32} {a_oth : Nat → Int32} {a_fst : Nat → Int32} {a_snd : Nat → Int32} {a_plc : Nat → Int32} {p1 : Int32} {res : (Int32) ⊕ (Nat)} (hf : f_X11_sayings t_texts a_tsize p1 = some res) (hE : ∀ E ce', (rx_X11_sayings ad y adE m_out t_draft m_tlen a_bytes m_nsize m_drafted a_letters a_nlen t_texts m_here m_fkind m_fplace m_toks t_types a_starts a_tlens m_heard m_qsize m_wayKnown m_way m_qKnown m_lineKnown m_nodes m_lsize a_tails a_heads a_gaps a_least m_csize a_ctails a_cheads a_cgaps a_leftOut a_qrow a_line a_tsize t_word a_own a_oth a_fst a_snd a_plc res) = .inr (E, ce') → E = exI) : CTL l yL_sayings wsL_sayings rm_L_sayings D ad 124 (tyL y) (STL ad adE adK adV tkA swA sa) (eC ad adE y m_out t_draft m_tlen a_bytes m_nsize m_drafted a_letters a_nlen t_texts m_here m_fkind m_fplace m_toks t_types a_starts a_tlens m_heard m_qsize m_wayKnown m_way m_qKnown m_lineKnown m_nodes m_lsize a_tails a_heads a_gaps a_least m_csize a_ctails a_cheads a_cgaps a_leftOut a_qrow a_line a_tsize t_word a_own a_oth a_fst a_snd a_plc) ao (y 3) o [.ref (ad 0), .int p1, .ref ao] (wrO 1 0 (rx_X11_sayings ad y adE m_out t_draft m_tlen a_bytes m_nsize m_drafted a_letters a_nlen t_texts m_here m_fkind m_fplace m_toks t_types a_starts a_tlens m_heard m_qsize m_wayKnown m_way m_qKnown m_lineKnown m_nodes m_lsize a_tails a_heads a_gaps a_least m_csize a_ctails a_cheads a_cgaps a_leftOut a_qrow a_line a_tsize t_word a_own a_oth a_fst a_snd a_plc res) o) := by
  intro sz
  refine va_MetW (cc := cL_sayings) (maxL := 4) (ret := some .int) (hh := [(0, 9, 12, 13)]) (by decide) rfl ?_
  intro p e s m args below meth c s₁ B hml hv
  obtain ⟨rfl, hsz, hP, hK, hD0, hst⟩ := hv
  subst hsz
  have hx := B.exec
  have hb := B.bytes
  have hr := B.returns
  have hlocks := B.notSynchronized
  have hown : s.vm.findClass RL = some m.cls := findClass_of_methodNamed B.named
  have hts := atoms_spec (ws := wsL_sayings) B.pre
  have htab : c.exceptionTable.toList = [⟨0, 9, 12, 13⟩] := vx_table (x := yL_sayings) B (hts _ (show Cond.codeWith yL_sayings cL_sayings 4 (some .int) [(0, 9, 12, 13)] ∈ wsL_sayings from List.mem_cons_self))
  have hw : Wl D ad 124 ao (y 3) (eC ad adE y m_out t_draft m_tlen a_bytes m_nsize m_drafted a_letters a_nlen t_texts m_here m_fkind m_fplace m_toks t_types a_starts a_tlens m_heard m_qsize m_wayKnown m_way m_qKnown m_lineKnown m_nodes m_lsize a_tails a_heads a_gaps a_least m_csize a_ctails a_cheads a_cgaps a_leftOut a_qrow a_line a_tsize t_word a_own a_oth a_fst a_snd a_plc) o s.heap s.heap [] := ⟨hP, by have := AL_all (sz := s.heap.size) hD0; rw [eC_len] at this; exact this, va_S.rf⟩
  have hl := lv_entry ([.ref (ad 0), .int p1, .ref ao]) (n := 4) (Nat.le_of_ble_eq_true rfl)
  rw [lg_entry_eq]
  generalize (lg_sl ([.ref (ad 0), .int p1, .ref ao]) ++ List.replicate (4 - (lg_sl ([.ref (ad 0), .int p1, .ref ao])).length) Slot.unset).toArray = ls at hl ⊢
  have hl : lv_has ls 4 [(0, .ref (ad 0)), (1, .int p1), (2, .ref ao)] := hl
  refine lv_aload_n hx hb dL_sayings_0 rfl (lv_at hl 2 rfl) ?_
  refine lv_iconst (v := 0) hx hb dL_sayings_1 (by decide) ?_
  refine lv_aload_n hx hb dL_sayings_2 rfl (lv_at hl 0 rfl) ?_
  refine lv_iload_n hx hb dL_sayings_3 rfl (lv_at hl 1 rfl) ?_
  refine g_callX (As := [.int p1]) (rest := [.int 0, .ref ao]) ⟨hx, hb, hml, hown, hts⟩ (k_X11_sayings htr hf) (cwV 1 hts gL_sayings_X11_sayings rfl rfl rfl (by decide +kernel) ⟨Nat.le_of_ble_eq_true rfl, Nat.le_of_ble_eq_true rfl⟩) STX_ok hst.1 hK eC_len hw eC_c0 rfl rfl hl.1 rfl (Nat.le_of_ble_eq_true rfl) dL_sayings_4 ⟨Nat.le_of_ble_eq_true rfl, Nat.le_of_ble_eq_true rfl⟩ (fun r ce' er hn H locs hw => ?_) (fun E ce' er hn q9 cell H locs hw h1 h2 h3 => ?_) (by cases res <;> exact eC_len)
  · rw [er]
    refine lv_i2l hx hb dL_sayings_7 rfl ?_
    refine g_lastL hx hb hK hw 3 rfl dL_sayings_8 (fun H locs hw => ?_)
    refine lv_goto (tgt := 15) hx hb dL_sayings_9 (by decide) ?_
    refine lv_iconst (v := 0) hx hb dL_sayings_15 (by decide) ?_
    exact W.iret (v := 0) hx hb hr (fun t ht _ => g_endL hw t ht) hw.2.2.2.2 dL_sayings_16
  · have hEE := hE E ce' er
    rw [er]
    subst hEE
    refine vx_catch (own := RL) (name := exI) hown [] ⟨0, 9, 12, 13⟩ [] htab (fun z hz => by cases hz) (by decide) (by decide) (hts (.classLink RL 13 exI) (by decide +kernel)) (va_Nw.use rfl (hst.1.2.1 (.castable exI exI) (by decide +kernel))) h1 h2 h3 ?_
    refine lv_astore_n (lv' := [(3, .ref q9), (0, .ref (ad 0)), (1, .int p1), (2, .ref ao)]) hx hb dL_sayings_12 rfl hl (by decide) rfl (fun ls hl => ?_)
    refine lv_iconst (v := 1) hx hb dL_sayings_13 (by decide) ?_
    exact W.iret (v := 1) hx hb hr (fun t ht _ => g_endL hw t ht) hw.2.2.2.2 dL_sayings_14
