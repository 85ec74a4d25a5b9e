/-! the walk of the law's body from its entry, and the claim -/
set_option maxHeartbeats 1000000 in
set_option maxRecDepth 100000 in
theorem whole_start {p : Program} {e : Env} {s : State} {m : MethodId} {below : List Frame} {meth : Method} {c : Code} (l : Launch) (htr : l.stackTraces = false) {b L : Nat} {xs : Nat → Int32} (hL : L ≤ 3072) (C0 : lw_At p s m meth c b L xs) : W p l e room_1 s m #[Value.ref b] below meth c s.heap [] 0 0 (lw_Z below #[Value.ref b] s) (entryFrame m ([Value.ref b] : List Value).toArray 7) := by
  obtain ⟨hx, hb, hr, hml, hown0, hts0, hX, hbl, hlocks, hgv⟩ := id C0
  have hown : s.vm.findClass RL = some m.cls := hown0
  have hb : c.code = cL_law := hb
  have hts : ∀ w ∈ wsL_law, w.before #[Value.ref b] s = true := fun w h => hts0 w (wsL_law_in w h)
  obtain ⟨D, y, hK⟩ := en_K hts0
  obtain ⟨adE, adK, adV, tkA, swA, sa, hSL, hSN⟩ := en_C hts0 hgv
  have hst := hSL (adC s.heap.size) aC_lo
  have hsr : STR (nAt s.heap.size 124) s s.heap := en_R hts0 hgv aR_lo
  have hsz : s.heap.size = nA s.heap.size 0 + 0 := rfl
  have hz : s.heap.size ≤ nA s.heap.size 0 := Nat.le_refl _
  have hw : Wo D (nAt s.heap.size 0) (nF s.heap.size 0) [] s.heap s.heap [] := ⟨fun k q h => (by simp [wls] at h), n_D, va_S.rf⟩
  have hl := lv_entry ([.ref b]) (n := 7) (Nat.le_of_ble_eq_true rfl)
  rw [lg_entry_eq]
  generalize (lg_sl ([.ref b]) ++ List.replicate (7 - (lg_sl ([.ref b])).length) Slot.unset).toArray = ls at hl ⊢
  have hl : lv_has ls 7 [(0, .ref b)] := hl
  refine n_new (ci := 9) (fs := [.null, .null, .null, .null, .null, .int 0, .null]) (C := RX11) (T := TX11) (N := 7) hx hb hts inlX11 tyX11 tyX11_ok hown (hts (.classLink RL 8 RX11) (by decide +kernel)) (hts (.instantiable RX11 7) (by decide +kernel)) (hts (.initialized RX11) (by decide +kernel)) hK hsz hw 0 rfl (by omega) rfl (fun j hj => by rcases (show j = 0 ∨ j = 1 ∨ j = 2 ∨ j = 3 ∨ j = 4 ∨ j = 5 ∨ j = 6 by omega) with rfl | rfl | rfl | rfl | rfl | rfl | rfl <;> rfl) (by decide +kernel) (by decide +kernel) dL_law_0 (fun H hw => ?_)
  refine lv_dup hx hb dL_law_3 rfl ?_
  refine n_I (n := 0) (F := []) (x0 := .inr (9, [.null, .null, .null, .null, .null, .int 0, .null])) (As := []) (rest := [.ref (nA s.heap.size (0 + 0))]) ⟨hx, hb, hml, hown, hts⟩ (k_X11_init (l := l) (D := D) (y := y) (z := s.heap.size) (b := s.heap.size) (k := 0 + 0) (adE := adE) (nz hz)) (cwI 0 hts gL_law_X11_init rfl rfl rfl (hts (.initialized RX11) (by decide +kernel)) (hts (.methodLink RL 35 yX11_init) (by decide +kernel)) (hts (.instanceMethod yX11_init) (by decide +kernel)) rfl (by decide +kernel) ⟨by decide +kernel, by decide +kernel⟩) hz hSN hK hsz hw rfl (by omega) rfl hl.1 rfl (Nat.le_of_ble_eq_true rfl) dL_law_4 ⟨by decide +kernel, by decide +kernel⟩ (fun H locs hw => ?_)
  have hw : Wo D (nAt s.heap.size 0) (nF s.heap.size 0) (hpC s.heap.size adE y) s.heap H locs := hw
  refine lv_astore_n (lv' := [(1, .ref (nA s.heap.size (0 + 0))), (0, .ref b)]) hx hb dL_law_7 rfl hl (by decide) rfl (fun ls hl => ?_)
  refine n_new (ci := 10) (fs := [.int 0, .null, .int 0, .int 0, .int 0, .int 0, .int 0, .int 0, .int 0, .int 0, .long 0, .null, .int 0, .int 0, .null, .null, .null, .null, .null, .null, .null, .int 0, .null, .int 0, .null, .null, .null, .int 0, .null, .null, .null, .null, .null]) (C := RX12) (T := TX12) (N := 33) hx hb hts inlX12 tyX12 tyX12_ok hown (hts (.classLink RL 36 RX12) (by decide +kernel)) (hts (.instantiable RX12 33) (by decide +kernel)) (hts (.initialized RX12) (by decide +kernel)) hK hsz hw 124 hpC_len (by omega) rfl (fun j hj => by rcases (show j = 0 ∨ j = 1 ∨ j = 2 ∨ j = 3 ∨ j = 4 ∨ j = 5 ∨ j = 6 ∨ j = 7 ∨ j = 8 ∨ j = 9 ∨ j = 10 ∨ j = 11 ∨ j = 12 ∨ j = 13 ∨ j = 14 ∨ j = 15 ∨ j = 16 ∨ j = 17 ∨ j = 18 ∨ j = 19 ∨ j = 20 ∨ j = 21 ∨ j = 22 ∨ j = 23 ∨ j = 24 ∨ j = 25 ∨ j = 26 ∨ j = 27 ∨ j = 28 ∨ j = 29 ∨ j = 30 ∨ j = 31 ∨ j = 32 by omega) with rfl | rfl | rfl | rfl | rfl | rfl | rfl | rfl | rfl | rfl | rfl | rfl | rfl | rfl | rfl | rfl | rfl | rfl | rfl | rfl | rfl | rfl | rfl | rfl | rfl | rfl | rfl | rfl | rfl | rfl | rfl | rfl | rfl <;> rfl) (by decide +kernel) (by decide +kernel) dL_law_8 (fun H hw => ?_)
  refine lv_dup hx hb dL_law_11 rfl ?_
  refine n_I (n := 124) (F := hpC s.heap.size adE y) (x0 := .inr (10, [.int 0, .null, .int 0, .int 0, .int 0, .int 0, .int 0, .int 0, .int 0, .int 0, .long 0, .null, .int 0, .int 0, .null, .null, .null, .null, .null, .null, .null, .int 0, .null, .int 0, .null, .null, .null, .int 0, .null, .null, .null, .null, .null])) (As := []) (rest := [.ref (nA s.heap.size (0 + 124))]) ⟨hx, hb, hml, hown, hts⟩ (k_X12_init (l := l) (D := D) (y := y) (z := s.heap.size) (b := s.heap.size) (k := 0 + 124) (adE := adE) (nz hz)) (cwI 0 hts gL_law_X12_init rfl rfl rfl (hts (.initialized RX12) (by decide +kernel)) (hts (.methodLink RL 38 yX12_init) (by decide +kernel)) (hts (.instanceMethod yX12_init) (by decide +kernel)) rfl (by decide +kernel) ⟨by decide +kernel, by decide +kernel⟩) hz hSN hK hsz hw hpC_len (by omega) rfl hl.1 rfl (Nat.le_of_ble_eq_true rfl) dL_law_12 ⟨by decide +kernel, by decide +kernel⟩ (fun H locs hw => ?_)
  have hw : Wo D (nAt s.heap.size 0) (nF s.heap.size 0) (hpC s.heap.size adE y ++ eR0 s.heap.size y) s.heap H locs := hw
  refine lv_astore_n (lv' := [(2, .ref (nA s.heap.size (0 + 124))), (1, .ref (nA s.heap.size (0 + 0))), (0, .ref b)]) hx hb dL_law_15 rfl hl (by decide) rfl (fun ls hl => ?_)
  refine lv_iconst (v := 1) hx hb dL_law_16 (by decide) ?_
  refine n_newa (atype := .long) (ty := .long) (a0 := (1, .inr (.inl (fun _ => 0)))) (v := 1) hx hb (hts (.arrayClass .long) (by decide +kernel)) rfl hK 3 rfl (fun h => h) hsz hw 143 (by rw [List.length_append, hpC_len]; rfl) (by omega) (fun cA => vp_cell_l cA 1 (fun _ => 0)) (by decide +kernel) (by decide +kernel) (by decide +kernel) (by decide +kernel) (by decide +kernel) dL_law_17 (fun H hw => ?_)
  refine lv_astore_n (lv' := [(3, .ref (nA s.heap.size (0 + 143))), (2, .ref (nA s.heap.size (0 + 124))), (1, .ref (nA s.heap.size (0 + 0))), (0, .ref b)]) hx hb dL_law_19 rfl hl (by decide) rfl (fun ls hl => ?_)
  refine lv_iconst (v := 0) hx hb dL_law_20 (by decide) ?_
  refine lv_istore (lv' := [(4, .int 0), (3, .ref (nA s.heap.size (0 + 143))), (2, .ref (nA s.heap.size (0 + 124))), (1, .ref (nA s.heap.size (0 + 0))), (0, .ref b)]) hx hb dL_law_21 hl (by decide) rfl (fun ls hl => ?_)
  refine W.widen (k := 144 + 0) (n := 8000 + 0) (by omega) (by omega) ?_
  have hS : va_S (oldS s) s.heap H locs := hw.2.2
  have hP := hw.1
  rw [List.append_assoc, wls_at (n := 124) hpC_len, wls_at (n := 19) (F := eR0 s.heap.size y) rfl] at hP
  have hP1 : va_P D vwCl (wls (nAt s.heap.size 0) (hpC s.heap.size adE y)) H := fun k q hk => hP k q (by rw [List.getElem?_append_left (List.getElem?_eq_some_iff.mp hk).1]; exact hk)
  have hP2 : va_P D vwCl (wls (nAt s.heap.size (0 + 124)) (eR0 s.heap.size y) ++ wls (nAt s.heap.size (0 + 124 + 19)) [.inl (y 3, 1, .inr (.inl (fun _ => 0)))]) H := fun k q hk => hP ((wls (nAt s.heap.size 0) (hpC s.heap.size adE y)).length + k) q (by rw [List.getElem?_append_right (by omega), Nat.add_sub_cancel_left]; exact hk)
  have hPR : va_P D vwCl (wls (nAt s.heap.size 124) (eR0 s.heap.size y)) H := fun k q hk => hP2 k q (by rw [List.getElem?_append_left (List.getElem?_eq_some_iff.mp hk).1]; exact hk)
  have hPO : va_P D vwCl [(nA s.heap.size 143, oL (y 3) (fun _ => 0))] H := fun k q hk => hP2 ((wls (nAt s.heap.size (0 + 124)) (eR0 s.heap.size y)).length + k) q (by rw [List.getElem?_append_right (by omega), Nat.add_sub_cancel_left]; exact hk)
  have hPC := hp_eC (hp_CD (A := nF s.heap.size 0) (H0 := s.heap) (locs := locs) ⟨hP1, n_D, hw.2.2⟩).1
  exact law_loop htr ⟨hx, hb, hml, hown, hts, hX, hbl, hK, hst, hsr⟩ hL hr hlocks (L + 1) 0 (Nat.zero_le L) (by omega) (eC0 s.heap.size adE y) (eR0 s.heap.size y) (fun _ => 0) H locs ls CRW0 ⟨hPC, hPR, hPO, hS⟩ (lv_sub hl [4, 3, 2, 1, 0] rfl)
