/-! the reader's constructors -/
abbrev rm_X10_init : Room := { frames := 1, cells := 3, slots := 1203, locals := 12 }
def tkF (adE : Nat → Nat) (i : Nat) : Nat → Option Nat := fun j => if j < i then some (adE 11) else none
theorem tkF_up {adE : Nat → Nat} {i : Nat} (hi : i < 2 ^ 31) : va_up (tkF adE i) (nI i).toNatClampNeg (some (adE 11)) = tkF adE (i + 1) := by
  rw [nI_clamp hi]
  funext j
  unfold va_up tkF
  by_cases h : j = i
  · subst h
    rw [if_pos rfl, if_pos (by omega)]
  · rw [if_neg h]
    by_cases h2 : j < i
    · rw [if_pos h2, if_pos (by omega)]
    · rw [if_neg h2, if_neg (by omega)]
def w10 (b k : Nat) (y : Nat → ClassId) (f : Nat → Option Nat) : List va_E := [.inr (8, [.ref (nA b (k + 1)), .ref (nA b (k + 2)), .ref (nA b (k + 3)), .int 0]), .inl (y 6, 401, .inr (.inr (.inr (.inr f)))), .inl (y 1, 401, .inl (fun _ => 0)), .inl (y 1, 401, .inl (fun _ => 0))]
set_option maxHeartbeats 1000000 in
set_option maxRecDepth 100000 in
theorem kl_X10_init {p : Program} {l : Launch} {e : Env} {s : State} {m : MethodId} {args : Array Value} {below : List Frame} {meth : Method} {c : Code} {D : va_G} {y : Nat → ClassId} {z b k : Nat} {adE : Nat → Nat} (hz : z ≤ nA b k) (hx : p.tables.exec = Jvm.exec) (hb : c.code = cX10_init) (hr : meth.sig.returnType = none) (hlocks : meth.locks = false) (hown : s.vm.findClass RX10 = some m.cls) (hts : ∀ w ∈ wsX10_init, w.before args s = true) (hK : va_K D vwCl (tyL y) s) (hst : STN z adE s s.heap) :
    ∀ (n i : Nat), i ≤ 401 → 402 ≤ i + n → ∀ (H : Heap) (locs : List Loc) (ls : Array Slot), Wo D (nAt b k) (nF b k) (w10 b k y (tkF adE i)) s.heap H locs → lv_has ls 2 [(1, .int (nI i)), (0, .ref (nA b k))] → W p l e rm_X10_init s m args below meth c H locs 3 1203 (MQ below (va_Qv (fun (_ : Unit) => True) (fun _ t => va_P D vwCl (wls (nAt b k) (w10 b k y (fun _ => some (adE 11)))) t.heap) (nF b k)) args s 3 1203 (nF b k)) (F0 m 39 ls []) := by
  have i_X10 : ∀ w ∈ u_ws RX10 TX10 4, w ∈ wsX10_init := by decide +kernel
  have L_11 := hts (.fieldLink RX10 11 "CaseOrder$Tokens" "types" "[LCaseOrder$Token;") (by decide +kernel)
  have L_28 := hts (.fieldLink RX10 28 "CaseOrder$Token" "END" "LCaseOrder$Token;") (by decide +kernel)
  intro n
  induction n with
  | zero =>
    intro i h1 h2
    exact absurd h2 (by omega)
  | succ n ih =>
    intro i h1 h2 H locs ls hw hl
    refine lv_iload_n hx hb dX10_init_39 rfl (lv_at hl 0 rfl) ?_
    refine lv_sipush (v := 400) hx hb dX10_init_40 (by decide) ?_
    refine lv_icmp_gt (tgt := 61) hx hb dX10_init_43 (by decide) (fun c1 => ?_) (fun c1 => ?_)
    · have hi : i = 401 := by
        rcases Nat.lt_or_ge i 401 with q | q
        · exact absurd c1 (Int32.not_lt.mpr (show nI i ≤ nI 400 from nI_le (by omega) (by omega)))
        · omega
      subst hi
      have hw := n_ext (f' := fun _ => some (adE 11)) hw 1 rfl (fun j hj => by unfold tkF; rw [if_pos hj])
      have hw : Wo D (nAt b k) (nF b k) (w10 b k y (fun _ => some (adE 11))) s.heap H locs := hw
      exact W.vret hx hb hr (fun t ht _ => n_end hw t ht) hw.2.2.2.2 dX10_init_61
    · have hi : i < 401 := by
        rcases Nat.lt_or_ge i 401 with q | q
        · exact q
        · exact absurd (show nI 400 < nI i from nI_lt (by omega) (by omega)) c1
      refine lv_aload_n hx hb dX10_init_46 rfl (lv_at hl 1 rfl) ?_
      refine g_get hx hb hts i_X10 hown hK hw 0 rfl rfl 0 (by decide) L_11 (fun _ h => h) rfl dX10_init_47 ?_
      refine lv_iload_n hx hb dX10_init_50 rfl (lv_at hl 0 rfl) ?_
      refine va_gets hx hb (hst.2.1.narrow (fun q hq => Nat.le_trans hz hq)) hw.2.2 hown L_28 (fun _ h => h) dX10_init_51 ?_
      refine vb_astq (a := nAt b k 1) (C := "CaseOrder$Token") hx hb hK hw.1 hw.2.1 hw.2.2 1 6 (wls_get 1 rfl) rfl (va_Orecv (hst.2.2.1.narrow (fun q hq => Nat.le_trans hz hq)) hw.2.2) vb_asgS (vp_in_nI hi (by omega)) dX10_init_54 (fun H locs a9 b9 c9 => ?_)
      have hw : Wo D (nAt b k) (nF b k) (w10 b k y (va_up (tkF adE i) (nI i).toNatClampNeg (some (adE 11)))) s.heap H locs := ⟨by rw [wls_set (ad := nAt b k) 1] at a9; exact a9, n_D, c9⟩
      rw [tkF_up (by omega)] at hw
      refine lv_iinc (v := nI (i + 1)) (lv' := [(1, .int (nI (i + 1))), (0, .ref (nA b k))]) hx hb dX10_init_55 hl (k := 0) rfl (nI_1 i) (by decide) rfl (fun ls hl => ?_)
      refine lv_goto (tgt := 39) hx hb dX10_init_58 (by decide) ?_
      exact ih (i + 1) hi (by omega) H locs ls hw hl
set_option maxHeartbeats 1000000 in
set_option maxRecDepth 100000 in
theorem k_X10_init {l : Launch} {D : va_G} {y : Nat → ClassId} {z b k : Nat} {adE : Nat → Nat} (hz : z ≤ nA b k) : CTN l yX10_init wsX10_init rm_X10_init D (tyL y) z adE b k (.inr (8, [.null, .null, .null, .int 0])) (w10 b k y (fun _ => some (adE 11))) [.ref (nA b k)] 3 1203 := by
  unfold CTN
  refine Met.ofW (cc := cX10_init) (maxL := 2) (ret := none) (by decide) rfl ?_
  intro p e s m args below meth c s₁ B hml hv
  obtain ⟨rfl, hsz, hP, hK, hst⟩ := hv
  have hx := B.exec
  have hb := B.bytes
  have hr := B.returns
  have hlocks := B.notSynchronized
  have hts := atoms_spec (ws := wsX10_init) B.pre
  have hown : s.vm.findClass RX10 = some m.cls := findClass_of_methodNamed B.named
  have hin : meth.name = "<init>" := (name_of_methodNamed B.named B.method).1
  have i_X10 : ∀ w ∈ u_ws RX10 TX10 4, w ∈ wsX10_init := by decide +kernel
  have L_11 := hts (.fieldLink RX10 11 "CaseOrder$Tokens" "types" "[LCaseOrder$Token;") (by decide +kernel)
  have L_17 := hts (.fieldLink RX10 17 "CaseOrder$Tokens" "starts" "[I") (by decide +kernel)
  have L_21 := hts (.fieldLink RX10 21 "CaseOrder$Tokens" "lengths" "[I") (by decide +kernel)
  have L_24 := hts (.fieldLink RX10 24 "CaseOrder$Tokens" "size" "I") (by decide +kernel)
  have hw : Wo D (nAt b k) (nF b k) [.inr (8, [.null, .null, .null, .int 0])] s.heap s.heap [] := n_start hP
  have hl := lv_entry ([.ref (nA b k)]) (n := 2) (Nat.le_of_ble_eq_true rfl)
  rw [lg_entry_eq]
  generalize (lg_sl ([.ref (nA b k)]) ++ List.replicate (2 - (lg_sl ([.ref (nA b k)])).length) Slot.unset).toArray = ls at hl ⊢
  have hl : lv_has ls 2 [(0, .ref (nA b k))] := hl
  refine lv_aload_n hx hb dX10_init_0 rfl (lv_at hl 0 rfl) ?_
  refine W.objInit hx hb hown (hts (.methodLink RX10 3 objectInit) (by decide +kernel)) (hts (.instanceMethod objectInit) (by decide +kernel)) (hts (.code objectInit ⟨#[0xb1]⟩ 1 none) (List.mem_of_getElem? (i := 3) rfl)) rfl (by rw [hml]; exact hl.1) rfl dX10_init_1 (Nat.le_of_ble_eq_true rfl) (Nat.le_of_ble_eq_true rfl) ?_
  refine W.eq (g2 := F0 m 4 ls []) rfl ?_
  refine lv_aload_n hx hb dX10_init_4 rfl (lv_at hl 0 rfl) ?_
  refine lv_sipush (v := 401) hx hb dX10_init_5 (by decide) ?_
  refine n_newq (C := RX9) (v := 401) (N' := 401) hx hb hown (hts (.classLink RX10 9 RX9) (by decide +kernel)) hst.2.2.2.2.2.2 hK 6 rfl hsz hw 1 rfl (by omega) (by decide +kernel) (by decide +kernel) (by decide +kernel) (by decide +kernel) (by decide +kernel) dX10_init_8 (fun H hw => ?_)
  have hw : Wo D (nAt b k) (nF b k) [.inr (8, [.null, .null, .null, .int 0]), .inl (y 6, 401, .inr (.inr (.inr (.inr (fun _ => none)))))] s.heap H [] := hw
  refine g_putF (ty := .array (.object "CaseOrder$Token")) (v := .ref (nA b (k + 1))) hx hb hts i_X10 tyX10 tyX10_ok nmX10 hown hK hw 0 rfl rfl 0 (by decide) L_11 (fun _ h => h) rfl hin rfl (by decide +kernel) rfl rfl (Nat.le_of_ble_eq_true rfl) dX10_init_11 (fun H locs hw => ?_)
  have hw : Wo D (nAt b k) (nF b k) [.inr (8, [.ref (nA b (k + 1)), .null, .null, .int 0]), .inl (y 6, 401, .inr (.inr (.inr (.inr (fun _ => none)))))] s.heap H locs := hw
  refine lv_aload_n hx hb dX10_init_14 rfl (lv_at hl 0 rfl) ?_
  refine lv_sipush (v := 401) hx hb dX10_init_15 (by decide) ?_
  refine n_newa (atype := .int) (ty := .int) (a0 := (401, .inl (fun _ => 0))) (v := 401) hx hb (hts (.arrayClass .int) (by decide +kernel)) rfl hK 1 rfl (fun h => h) hsz hw 2 rfl (by omega) (fun cA => vp_cell_i cA 401 (fun _ => 0)) (by decide +kernel) (by decide +kernel) (by decide +kernel) (by decide +kernel) (by decide +kernel) dX10_init_18 (fun H hw => ?_)
  have hw : Wo D (nAt b k) (nF b k) [.inr (8, [.ref (nA b (k + 1)), .null, .null, .int 0]), .inl (y 6, 401, .inr (.inr (.inr (.inr (fun _ => none))))), .inl (y 1, 401, .inl (fun _ => 0))] s.heap H locs := hw
  refine g_putF (ty := .array .int) (v := .ref (nA b (k + 2))) hx hb hts i_X10 tyX10 tyX10_ok nmX10 hown hK hw 0 rfl rfl 1 (by decide) L_17 (fun _ h => h) rfl hin rfl (by decide +kernel) rfl rfl (Nat.le_of_ble_eq_true rfl) dX10_init_20 (fun H locs hw => ?_)
  have hw : Wo D (nAt b k) (nF b k) [.inr (8, [.ref (nA b (k + 1)), .ref (nA b (k + 2)), .null, .int 0]), .inl (y 6, 401, .inr (.inr (.inr (.inr (fun _ => none))))), .inl (y 1, 401, .inl (fun _ => 0))] s.heap H locs := hw
  refine lv_aload_n hx hb dX10_init_23 rfl (lv_at hl 0 rfl) ?_
  refine lv_sipush (v := 401) hx hb dX10_init_24 (by decide) ?_
  refine n_newa (atype := .int) (ty := .int) (a0 := (401, .inl (fun _ => 0))) (v := 401) hx hb (hts (.arrayClass .int) (by decide +kernel)) rfl hK 1 rfl (fun h => h) hsz hw 3 rfl (by omega) (fun cA => vp_cell_i cA 401 (fun _ => 0)) (by decide +kernel) (by decide +kernel) (by decide +kernel) (by decide +kernel) (by decide +kernel) dX10_init_27 (fun H hw => ?_)
  have hw : Wo D (nAt b k) (nF b k) [.inr (8, [.ref (nA b (k + 1)), .ref (nA b (k + 2)), .null, .int 0]), .inl (y 6, 401, .inr (.inr (.inr (.inr (fun _ => none))))), .inl (y 1, 401, .inl (fun _ => 0)), .inl (y 1, 401, .inl (fun _ => 0))] s.heap H locs := hw
  refine g_putF (ty := .array .int) (v := .ref (nA b (k + 3))) hx hb hts i_X10 tyX10 tyX10_ok nmX10 hown hK hw 0 rfl rfl 2 (by decide) L_21 (fun _ h => h) rfl hin rfl (by decide +kernel) rfl rfl (Nat.le_of_ble_eq_true rfl) dX10_init_29 (fun H locs hw => ?_)
  have hw : Wo D (nAt b k) (nF b k) [.inr (8, [.ref (nA b (k + 1)), .ref (nA b (k + 2)), .ref (nA b (k + 3)), .int 0]), .inl (y 6, 401, .inr (.inr (.inr (.inr (fun _ => none))))), .inl (y 1, 401, .inl (fun _ => 0)), .inl (y 1, 401, .inl (fun _ => 0))] s.heap H locs := hw
  refine lv_aload_n hx hb dX10_init_32 rfl (lv_at hl 0 rfl) ?_
  refine lv_iconst (v := 0) hx hb dX10_init_33 (by decide) ?_
  refine g_put (ty := .int) (v := .int 0) hx hb hts i_X10 tyX10 tyX10_ok nmX10 hown hK hw 0 rfl rfl 3 (by decide) L_24 (fun _ h => h) rfl (by decide +kernel) rfl rfl (Nat.le_of_ble_eq_true rfl) dX10_init_34 (fun H locs hw => ?_)
  have hw : Wo D (nAt b k) (nF b k) [.inr (8, [.ref (nA b (k + 1)), .ref (nA b (k + 2)), .ref (nA b (k + 3)), .int 0]), .inl (y 6, 401, .inr (.inr (.inr (.inr (fun _ => none))))), .inl (y 1, 401, .inl (fun _ => 0)), .inl (y 1, 401, .inl (fun _ => 0))] s.heap H locs := hw
  refine lv_iconst (v := 0) hx hb dX10_init_37 (by decide) ?_
  refine lv_istore_n (lv' := [(1, .int 0), (0, .ref (nA b k))]) hx hb dX10_init_38 rfl hl (by decide) rfl (fun ls hl => ?_)
  refine W.widen (k := 3) (n := 1203) (by omega) (by omega) ?_
  have e0 : tkF adE 0 = fun _ => none := by funext j; unfold tkF; rw [if_neg (Nat.not_lt_zero j)]
  exact kl_X10_init hz hx hb hr hlocks hown hts hK hst 402 0 (by omega) (by omega) H locs ls (by rw [e0]; exact hw) hl
abbrev rm_X5_init : Room := { frames := 2, cells := 4, slots := 1207, locals := 33 }
set_option maxHeartbeats 1000000 in
set_option maxRecDepth 100000 in
theorem k_X5_init {l : Launch} {D : va_G} {y : Nat → ClassId} {z b k : Nat} {adE : Nat → Nat} {a1 : Nat} {a2 : Nat} (hz : z ≤ nA b k) : CTN l yX5_init wsX5_init rm_X5_init D (tyL y) z adE b k (.inr (4, [.null, .null, .null, .int 0, .int 0, .int 0])) [.inr (4, [.ref (nA b (k + 1)), .ref a1, .ref a2, .int 0, .int 0, .int 0]), .inr (8, [.ref (nA b (k + 2)), .ref (nA b (k + 3)), .ref (nA b (k + 4)), .int 0]), .inl (y 6, 401, .inr (.inr (.inr (.inr (fun _ => some (adE 11)))))), .inl (y 1, 401, .inl (fun _ => 0)), .inl (y 1, 401, .inl (fun _ => 0))] [.ref (nA b k), .ref a1, .ref a2] 4 1207 := by
  unfold CTN
  refine Met.ofW (cc := cX5_init) (maxL := 3) (ret := none) (by decide) rfl ?_
  intro p e s m args below meth c s₁ B hml hv
  obtain ⟨rfl, hsz, hP, hK, hst⟩ := hv
  have hx := B.exec
  have hb := B.bytes
  have hr := B.returns
  have hlocks := B.notSynchronized
  have hts := atoms_spec (ws := wsX5_init) B.pre
  have hown : s.vm.findClass RX5 = some m.cls := findClass_of_methodNamed B.named
  have hin : meth.name = "<init>" := (name_of_methodNamed B.named B.method).1
  have i_X10 : ∀ w ∈ u_ws RX10 TX10 4, w ∈ wsX5_init := by decide +kernel
  have i_X5 : ∀ w ∈ u_ws RX5 TX5 6, w ∈ wsX5_init := by decide +kernel
  have L_12 := hts (.fieldLink RX5 12 "CaseOrder$Reader" "tokens" "LCaseOrder$Tokens;") (by decide +kernel)
  have L_18 := hts (.fieldLink RX5 18 "CaseOrder$Reader" "here" "I") (by decide +kernel)
  have L_22 := hts (.fieldLink RX5 22 "CaseOrder$Reader" "faultKind" "I") (by decide +kernel)
  have L_25 := hts (.fieldLink RX5 25 "CaseOrder$Reader" "faultPlace" "I") (by decide +kernel)
  have L_28 := hts (.fieldLink RX5 28 "CaseOrder$Reader" "tape" "LCaseOrder$Tape;") (by decide +kernel)
  have L_32 := hts (.fieldLink RX5 32 "CaseOrder$Reader" "names" "LCaseOrder$Names;") (by decide +kernel)
  have hw : Wo D (nAt b k) (nF b k) [.inr (4, [.null, .null, .null, .int 0, .int 0, .int 0])] s.heap s.heap [] := n_start hP
  have hl := lv_entry ([.ref (nA b k), .ref a1, .ref a2]) (n := 3) (Nat.le_of_ble_eq_true rfl)
  rw [lg_entry_eq]
  generalize (lg_sl ([.ref (nA b k), .ref a1, .ref a2]) ++ List.replicate (3 - (lg_sl ([.ref (nA b k), .ref a1, .ref a2])).length) Slot.unset).toArray = ls at hl ⊢
  have hl : lv_has ls 3 [(0, .ref (nA b k)), (1, .ref a1), (2, .ref a2)] := hl
  refine lv_aload_n hx hb dX5_init_0 rfl (lv_at hl 0 rfl) ?_
  refine W.objInit hx hb hown (hts (.methodLink RX5 3 objectInit) (by decide +kernel)) (hts (.instanceMethod objectInit) (by decide +kernel)) (hts (.code objectInit ⟨#[0xb1]⟩ 1 none) (List.mem_of_getElem? (i := 3) rfl)) rfl (by rw [hml]; exact hl.1) rfl dX5_init_1 (Nat.le_of_ble_eq_true rfl) (Nat.le_of_ble_eq_true rfl) ?_
  refine W.eq (g2 := F0 m 4 ls []) rfl ?_
  refine lv_aload_n hx hb dX5_init_4 rfl (lv_at hl 0 rfl) ?_
  refine n_new (ci := 8) (fs := [.null, .null, .null, .int 0]) (C := RX10) (T := TX10) (N := 4) hx hb hts i_X10 tyX10 tyX10_ok hown (hts (.classLink RX5 9 RX10) (by decide +kernel)) (hts (.instantiable RX10 4) (by decide +kernel)) (hts (.initialized RX10) (by decide +kernel)) hK hsz hw 1 rfl (by omega) rfl (fun j hj => by rcases (show j = 0 ∨ j = 1 ∨ j = 2 ∨ j = 3 by omega) with rfl | rfl | rfl | rfl <;> rfl) (by decide +kernel) (by decide +kernel) dX5_init_5 (fun H hw => ?_)
  have hw : Wo D (nAt b k) (nF b k) [.inr (4, [.null, .null, .null, .int 0, .int 0, .int 0]), .inr (8, [.null, .null, .null, .int 0])] s.heap H [] := hw
  refine lv_dup hx hb dX5_init_8 rfl ?_
  refine n_I (n := 1) (F := [.inr (4, [.null, .null, .null, .int 0, .int 0, .int 0])]) (x0 := .inr (8, [.null, .null, .null, .int 0])) (As := []) (rest := [.ref (nA b (k + 1)), .ref (nA b k)]) ⟨hx, hb, hml, hown, hts⟩ (k_X10_init (nz hz)) (cwI 0 hts gX5_init_X10_init rfl rfl rfl (hts (.initialized RX10) (by decide +kernel)) (hts (.methodLink RX5 11 yX10_init) (by decide +kernel)) (hts (.instanceMethod yX10_init) (by decide +kernel)) rfl (by decide +kernel) ⟨by decide +kernel, by decide +kernel⟩) hz hst hK hsz hw rfl (by omega) rfl hl.1 rfl (Nat.le_of_ble_eq_true rfl) dX5_init_9 ⟨by decide +kernel, by decide +kernel⟩ (fun H locs hw => ?_)
  have hw : Wo D (nAt b k) (nF b k) [.inr (4, [.null, .null, .null, .int 0, .int 0, .int 0]), .inr (8, [.ref (nA b (k + 2)), .ref (nA b (k + 3)), .ref (nA b (k + 4)), .int 0]), .inl (y 6, 401, .inr (.inr (.inr (.inr (fun _ => some (adE 11)))))), .inl (y 1, 401, .inl (fun _ => 0)), .inl (y 1, 401, .inl (fun _ => 0))] s.heap H locs := hw
  refine g_putF (ty := .object "CaseOrder$Tokens") (v := .ref (nA b (k + 1))) hx hb hts i_X5 tyX5 tyX5_ok nmX5 hown hK hw 0 rfl rfl 0 (by decide) L_12 (fun _ h => h) rfl hin rfl (by decide +kernel) rfl rfl (Nat.le_of_ble_eq_true rfl) dX5_init_12 (fun H locs hw => ?_)
  have hw : Wo D (nAt b k) (nF b k) [.inr (4, [.ref (nA b (k + 1)), .null, .null, .int 0, .int 0, .int 0]), .inr (8, [.ref (nA b (k + 2)), .ref (nA b (k + 3)), .ref (nA b (k + 4)), .int 0]), .inl (y 6, 401, .inr (.inr (.inr (.inr (fun _ => some (adE 11)))))), .inl (y 1, 401, .inl (fun _ => 0)), .inl (y 1, 401, .inl (fun _ => 0))] s.heap H locs := hw
  refine lv_aload_n hx hb dX5_init_15 rfl (lv_at hl 0 rfl) ?_
  refine lv_iconst (v := 0) hx hb dX5_init_16 (by decide) ?_
  refine g_put (ty := .int) (v := .int 0) hx hb hts i_X5 tyX5 tyX5_ok nmX5 hown hK hw 0 rfl rfl 3 (by decide) L_18 (fun _ h => h) rfl (by decide +kernel) rfl rfl (Nat.le_of_ble_eq_true rfl) dX5_init_17 (fun H locs hw => ?_)
  have hw : Wo D (nAt b k) (nF b k) [.inr (4, [.ref (nA b (k + 1)), .null, .null, .int 0, .int 0, .int 0]), .inr (8, [.ref (nA b (k + 2)), .ref (nA b (k + 3)), .ref (nA b (k + 4)), .int 0]), .inl (y 6, 401, .inr (.inr (.inr (.inr (fun _ => some (adE 11)))))), .inl (y 1, 401, .inl (fun _ => 0)), .inl (y 1, 401, .inl (fun _ => 0))] s.heap H locs := hw
  refine lv_aload_n hx hb dX5_init_20 rfl (lv_at hl 0 rfl) ?_
  refine lv_iconst (v := 0) hx hb dX5_init_21 (by decide) ?_
  refine g_put (ty := .int) (v := .int 0) hx hb hts i_X5 tyX5 tyX5_ok nmX5 hown hK hw 0 rfl rfl 4 (by decide) L_22 (fun _ h => h) rfl (by decide +kernel) rfl rfl (Nat.le_of_ble_eq_true rfl) dX5_init_22 (fun H locs hw => ?_)
  have hw : Wo D (nAt b k) (nF b k) [.inr (4, [.ref (nA b (k + 1)), .null, .null, .int 0, .int 0, .int 0]), .inr (8, [.ref (nA b (k + 2)), .ref (nA b (k + 3)), .ref (nA b (k + 4)), .int 0]), .inl (y 6, 401, .inr (.inr (.inr (.inr (fun _ => some (adE 11)))))), .inl (y 1, 401, .inl (fun _ => 0)), .inl (y 1, 401, .inl (fun _ => 0))] s.heap H locs := hw
  refine lv_aload_n hx hb dX5_init_25 rfl (lv_at hl 0 rfl) ?_
  refine lv_iconst (v := 0) hx hb dX5_init_26 (by decide) ?_
  refine g_put (ty := .int) (v := .int 0) hx hb hts i_X5 tyX5 tyX5_ok nmX5 hown hK hw 0 rfl rfl 5 (by decide) L_25 (fun _ h => h) rfl (by decide +kernel) rfl rfl (Nat.le_of_ble_eq_true rfl) dX5_init_27 (fun H locs hw => ?_)
  have hw : Wo D (nAt b k) (nF b k) [.inr (4, [.ref (nA b (k + 1)), .null, .null, .int 0, .int 0, .int 0]), .inr (8, [.ref (nA b (k + 2)), .ref (nA b (k + 3)), .ref (nA b (k + 4)), .int 0]), .inl (y 6, 401, .inr (.inr (.inr (.inr (fun _ => some (adE 11)))))), .inl (y 1, 401, .inl (fun _ => 0)), .inl (y 1, 401, .inl (fun _ => 0))] s.heap H locs := hw
  refine lv_aload_n hx hb dX5_init_30 rfl (lv_at hl 0 rfl) ?_
  refine lv_aload_n hx hb dX5_init_31 rfl (lv_at hl 1 rfl) ?_
  refine g_putF (ty := .object "CaseOrder$Tape") (v := .ref a1) hx hb hts i_X5 tyX5 tyX5_ok nmX5 hown hK hw 0 rfl rfl 1 (by decide) L_28 (fun _ h => h) rfl hin rfl (by decide +kernel) rfl rfl (Nat.le_of_ble_eq_true rfl) dX5_init_32 (fun H locs hw => ?_)
  have hw : Wo D (nAt b k) (nF b k) [.inr (4, [.ref (nA b (k + 1)), .ref a1, .null, .int 0, .int 0, .int 0]), .inr (8, [.ref (nA b (k + 2)), .ref (nA b (k + 3)), .ref (nA b (k + 4)), .int 0]), .inl (y 6, 401, .inr (.inr (.inr (.inr (fun _ => some (adE 11)))))), .inl (y 1, 401, .inl (fun _ => 0)), .inl (y 1, 401, .inl (fun _ => 0))] s.heap H locs := hw
  refine lv_aload_n hx hb dX5_init_35 rfl (lv_at hl 0 rfl) ?_
  refine lv_aload_n hx hb dX5_init_36 rfl (lv_at hl 2 rfl) ?_
  refine g_putF (ty := .object "CaseOrder$Names") (v := .ref a2) hx hb hts i_X5 tyX5 tyX5_ok nmX5 hown hK hw 0 rfl rfl 2 (by decide) L_32 (fun _ h => h) rfl hin rfl (by decide +kernel) rfl rfl (Nat.le_of_ble_eq_true rfl) dX5_init_37 (fun H locs hw => ?_)
  have hw : Wo D (nAt b k) (nF b k) [.inr (4, [.ref (nA b (k + 1)), .ref a1, .ref a2, .int 0, .int 0, .int 0]), .inr (8, [.ref (nA b (k + 2)), .ref (nA b (k + 3)), .ref (nA b (k + 4)), .int 0]), .inl (y 6, 401, .inr (.inr (.inr (.inr (fun _ => some (adE 11)))))), .inl (y 1, 401, .inl (fun _ => 0)), .inl (y 1, 401, .inl (fun _ => 0))] s.heap H locs := hw
  refine W.widen (k := 4) (n := 1207) (by omega) (by omega) ?_
  exact W.vret hx hb hr (fun t ht _ => n_end hw t ht) hw.2.2.2.2 dX5_init_40
