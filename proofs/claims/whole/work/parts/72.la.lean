/-! the law's cases -/
def LCX (p : Program) (s : State) (m : MethodId) (meth : Method) (c : Code) (b L : Nat) (xs : Nat → Int32) (D : va_G) (y : Nat → ClassId) (adE adK adV : Nat → Nat) (tkA swA : Nat) (sa : Nat → Nat) : Prop :=
  p.tables.exec = Jvm.exec ∧ c.code = cL_law ∧ c.maxLocals = 7 ∧ s.vm.findClass RL = some m.cls ∧ (∀ w ∈ wsL_law, w.before #[Value.ref b] s = true) ∧ va_X b L xs s s.heap ∧ b < s.heap.size ∧ va_K D vwCl (tyL y) s ∧ STL (adC s.heap.size) adE adK adV tkA swA sa s s.heap ∧ STR (nAt s.heap.size 124) s s.heap
/-- the loop's next round, wherever the case ends -/
def LKK (p : Program) (l : Launch) (e : Env) (s : State) (m : MethodId) (below : List Frame) (meth : Method) (c : Code) (b i : Nat) (D : va_G) (y : Nat → ClassId) (adE : Nat → Nat) (cells slots : Nat) (Q : State → Prop) : Prop :=
  ∀ (ce cr : List va_E) (o : Nat → Int64) (H : Heap) (locs : List Loc) (ls : Array Slot), CRW (adC s.heap.size) adE y (nAt s.heap.size 124) ce cr → LWo D s.heap.size (y 3) ce cr o s H locs → lv_has ls 7 [(0, .ref b), (1, .ref (adC s.heap.size 0)), (2, .ref (nAt s.heap.size 124 0)), (3, .ref (nA s.heap.size 143)), (4, .int (nI i))] → W p l e room_1 s m #[Value.ref b] below meth c H locs (cells + 1) (slots + 6) Q (F0 m 910 ls [])
set_option maxHeartbeats 1000000 in
set_option maxRecDepth 100000 in
theorem law_feed {p : Program} {l : Launch} {e : Env} {s : State} {m : MethodId} {below : List Frame} {meth : Method} {c : Code} {b L : Nat} {xs : Nat → Int32} {D : va_G} {y : Nat → ClassId} {adE adK adV : Nat → Nat} {tkA swA : Nat} {sa : Nat → Nat} {i cells slots : Nat} {Q : State → Prop} (htr : l.stackTraces = false) (C1 : LCX p s m meth c b L xs D y adE adK adV tkA swA sa) (hi : i + 6 ≤ L) (hL : L ≤ 3072) (hcs : cells + 1 ≤ 601024 ∧ slots + 6 ≤ 7293034) (K : LKK p l e s m below meth c b i D y adE cells slots Q) {ce cr : List va_E} {o : Nat → Int64} {H : Heap} {locs : List Loc} {ls : Array Slot} (h : CRW (adC s.heap.size) adE y (nAt s.heap.size 124) ce cr) (hw : LWo D s.heap.size (y 3) ce cr o s H locs) (hl : lv_has ls 7 [(0, .ref b), (1, .ref (adC s.heap.size 0)), (2, .ref (nAt s.heap.size 124 0)), (3, .ref (nA s.heap.size 143)), (4, .int (nI i))]) : W p l e room_1 s m #[Value.ref b] below meth c H locs cells slots Q (F0 m 136 ls []) := by
  obtain ⟨hx, hb, hml, hown, hts, hX, hbl, hK, hst, hsr⟩ := C1
  have hbA : ¬ oldS s b := Nat.not_le.mpr hbl
  have hc0 : cells ≤ room_1.cells ∧ slots ≤ room_1.slots := ⟨show cells ≤ 601024 by omega, show slots ≤ 7293034 by omega⟩
  refine lv_aload_n hx hb dL_law_136 rfl (lv_at hl 1 rfl) ?_
  refine lv_aload_n hx hb dL_law_137 rfl (lv_at hl 0 rfl) ?_
  refine lv_iload hx hb dL_law_138 (lv_at hl 4 rfl) ?_
  refine lv_iconst (v := 1) hx hb dL_law_140 (by decide) ?_
  refine lv_iadd hx hb dL_law_141 ?_
  refine va_sld hx hb hX hbl hbA hw.2.2.2 (show vp_in (nI i + 1) L from sX_in hi hL 1 (by omega)) dL_law_142 ?_
  refine lv_aload_n hx hb dL_law_143 rfl (lv_at hl 0 rfl) ?_
  refine lv_iload hx hb dL_law_144 (lv_at hl 4 rfl) ?_
  refine lv_iconst (v := 2) hx hb dL_law_146 (by decide) ?_
  refine lv_iadd hx hb dL_law_147 ?_
  refine va_sld hx hb hX hbl hbA hw.2.2.2 (show vp_in (nI i + 2) L from sX_in hi hL 2 (by omega)) dL_law_148 ?_
  refine lv_aload_n hx hb dL_law_149 rfl (lv_at hl 0 rfl) ?_
  refine lv_iload hx hb dL_law_150 (lv_at hl 4 rfl) ?_
  refine lv_iconst (v := 3) hx hb dL_law_152 (by decide) ?_
  refine lv_iadd hx hb dL_law_153 ?_
  refine va_sld hx hb hX hbl hbA hw.2.2.2 (show vp_in (nI i + 3) L from sX_in hi hL 3 (by omega)) dL_law_154 ?_
  refine lv_aload_n hx hb dL_law_155 rfl (lv_at hl 0 rfl) ?_
  refine lv_iload hx hb dL_law_156 (lv_at hl 4 rfl) ?_
  refine lv_iconst (v := 4) hx hb dL_law_158 (by decide) ?_
  refine lv_iadd hx hb dL_law_159 ?_
  refine va_sld hx hb hX hbl hbA hw.2.2.2 (show vp_in (nI i + 4) L from sX_in hi hL 4 (by omega)) dL_law_160 ?_
  refine lv_aload_n hx hb dL_law_161 rfl (lv_at hl 0 rfl) ?_
  refine lv_iload hx hb dL_law_162 (lv_at hl 4 rfl) ?_
  refine lv_iconst (v := 5) hx hb dL_law_164 (by decide) ?_
  refine lv_iadd hx hb dL_law_165 ?_
  refine va_sld hx hb hX hbl hbA hw.2.2.2 (show vp_in (nI i + 5) L from sX_in hi hL 5 (by omega)) dL_law_166 ?_
  obtain ⟨r, ce', cr', k1, k2, h'⟩ := lc_feed (l := l) (D := D) (adK := adK) (adV := adV) (tkA := tkA) (swA := swA) h ((sX xs i 1)) ((sX xs i 2)) ((sX xs i 3)) ((sX xs i 4)) ((sX xs i 5))
  refine L_C (As := [.int (sX xs i 1), .int (sX xs i 2), .int (sX xs i 3), .int (sX xs i 4), .int (sX xs i 5)]) (rest := []) ⟨hx, hb, hml, hown, hts⟩ k1 (cwV 5 hts gL_law_X11_feed rfl rfl rfl (by decide +kernel) ⟨Nat.le_of_ble_eq_true rfl, Nat.le_of_ble_eq_true rfl⟩) STC_ok hst.1.1 hK (CRW_c h) hw rfl hl.1 rfl (Nat.le_of_ble_eq_true rfl) dL_law_167 hc0 (fun H locs hw => ?_)
  refine lv_aload_n hx hb dL_law_170 rfl (lv_at hl 2 rfl) ?_
  refine lv_aload_n hx hb dL_law_171 rfl (lv_at hl 0 rfl) ?_
  refine lv_iload hx hb dL_law_172 (lv_at hl 4 rfl) ?_
  refine lv_iconst (v := 1) hx hb dL_law_174 (by decide) ?_
  refine lv_iadd hx hb dL_law_175 ?_
  refine va_sld hx hb hX hbl hbA hw.2.2.2 (show vp_in (nI i + 1) L from sX_in hi hL 1 (by omega)) dL_law_176 ?_
  refine lv_aload_n hx hb dL_law_177 rfl (lv_at hl 0 rfl) ?_
  refine lv_iload hx hb dL_law_178 (lv_at hl 4 rfl) ?_
  refine lv_iconst (v := 2) hx hb dL_law_180 (by decide) ?_
  refine lv_iadd hx hb dL_law_181 ?_
  refine va_sld hx hb hX hbl hbA hw.2.2.2 (show vp_in (nI i + 2) L from sX_in hi hL 2 (by omega)) dL_law_182 ?_
  refine lv_aload_n hx hb dL_law_183 rfl (lv_at hl 0 rfl) ?_
  refine lv_iload hx hb dL_law_184 (lv_at hl 4 rfl) ?_
  refine lv_iconst (v := 3) hx hb dL_law_186 (by decide) ?_
  refine lv_iadd hx hb dL_law_187 ?_
  refine va_sld hx hb hX hbl hbA hw.2.2.2 (show vp_in (nI i + 3) L from sX_in hi hL 3 (by omega)) dL_law_188 ?_
  refine lv_aload_n hx hb dL_law_189 rfl (lv_at hl 0 rfl) ?_
  refine lv_iload hx hb dL_law_190 (lv_at hl 4 rfl) ?_
  refine lv_iconst (v := 4) hx hb dL_law_192 (by decide) ?_
  refine lv_iadd hx hb dL_law_193 ?_
  refine va_sld hx hb hX hbl hbA hw.2.2.2 (show vp_in (nI i + 4) L from sX_in hi hL 4 (by omega)) dL_law_194 ?_
  refine lv_aload_n hx hb dL_law_195 rfl (lv_at hl 0 rfl) ?_
  refine lv_iload hx hb dL_law_196 (lv_at hl 4 rfl) ?_
  refine lv_iconst (v := 5) hx hb dL_law_198 (by decide) ?_
  refine lv_iadd hx hb dL_law_199 ?_
  refine va_sld hx hb hX hbl hbA hw.2.2.2 (show vp_in (nI i + 5) L from sX_in hi hL 5 (by omega)) dL_law_200 ?_
  refine L_R (As := [.int (sX xs i 1), .int (sX xs i 2), .int (sX xs i 3), .int (sX xs i 4), .int (sX xs i 5)]) (rest := [.int r]) ⟨hx, hb, hml, hown, hts⟩ k2 (cwV 5 hts gL_law_X12_feed rfl rfl rfl (by decide +kernel) ⟨Nat.le_of_ble_eq_true rfl, Nat.le_of_ble_eq_true rfl⟩) STR_ok hsr hK (CRW_c h').1 (CRW_c h).2.2.1 (CRW_c h).2.2.2 hw rfl hl.1 rfl (Nat.le_of_ble_eq_true rfl) dL_law_201 hc0 (fun H locs hw => ?_)
  refine lv_icmp_eq (tgt := 910) hx hb dL_law_204 (by decide) (fun _ => ?_) (fun c1 => absurd rfl c1)
  refine W.widen (k := cells + 1) (n := slots + 6) (by omega) (by omega) ?_
  exact K ce' cr' o H locs ls h' hw (lv_sub hl [0, 1, 2, 3, 4] rfl)
set_option maxHeartbeats 1000000 in
set_option maxRecDepth 100000 in
theorem law_end {p : Program} {l : Launch} {e : Env} {s : State} {m : MethodId} {below : List Frame} {meth : Method} {c : Code} {b L : Nat} {xs : Nat → Int32} {D : va_G} {y : Nat → ClassId} {adE adK adV : Nat → Nat} {tkA swA : Nat} {sa : Nat → Nat} {i cells slots : Nat} {Q : State → Prop} (htr : l.stackTraces = false) (C1 : LCX p s m meth c b L xs D y adE adK adV tkA swA sa) (hi : i + 6 ≤ L) (hL : L ≤ 3072) (hcs : cells + 1 ≤ 601024 ∧ slots + 6 ≤ 7293034) (K : LKK p l e s m below meth c b i D y adE cells slots Q) {ce cr : List va_E} {o : Nat → Int64} {H : Heap} {locs : List Loc} {ls : Array Slot} (h : CRW (adC s.heap.size) adE y (nAt s.heap.size 124) ce cr) (hw : LWo D s.heap.size (y 3) ce cr o s H locs) (hl : lv_has ls 7 [(0, .ref b), (1, .ref (adC s.heap.size 0)), (2, .ref (nAt s.heap.size 124 0)), (3, .ref (nA s.heap.size 143)), (4, .int (nI i))]) : W p l e room_1 s m #[Value.ref b] below meth c H locs cells slots Q (F0 m 209 ls []) := by
  obtain ⟨hx, hb, hml, hown, hts, hX, hbl, hK, hst, hsr⟩ := C1
  have hbA : ¬ oldS s b := Nat.not_le.mpr hbl
  have hc0 : cells ≤ room_1.cells ∧ slots ≤ room_1.slots := ⟨show cells ≤ 601024 by omega, show slots ≤ 7293034 by omega⟩
  refine lv_aload_n hx hb dL_law_209 rfl (lv_at hl 1 rfl) ?_
  refine lv_aload_n hx hb dL_law_210 rfl (lv_at hl 0 rfl) ?_
  refine lv_iload hx hb dL_law_211 (lv_at hl 4 rfl) ?_
  refine lv_iconst (v := 1) hx hb dL_law_213 (by decide) ?_
  refine lv_iadd hx hb dL_law_214 ?_
  refine va_sld hx hb hX hbl hbA hw.2.2.2 (show vp_in (nI i + 1) L from sX_in hi hL 1 (by omega)) dL_law_215 ?_
  obtain ⟨r, ce', cr', k1, k2, h'⟩ := lc_end (l := l) (D := D) (adK := adK) (adV := adV) (tkA := tkA) (swA := swA) h ((sX xs i 1))
  refine L_C (As := [.int (sX xs i 1)]) (rest := []) ⟨hx, hb, hml, hown, hts⟩ k1 (cwV 1 hts gL_law_X11_end rfl rfl rfl (by decide +kernel) ⟨Nat.le_of_ble_eq_true rfl, Nat.le_of_ble_eq_true rfl⟩) STC_ok hst.1.1 hK (CRW_c h) hw rfl hl.1 rfl (Nat.le_of_ble_eq_true rfl) dL_law_216 hc0 (fun H locs hw => ?_)
  refine lv_aload_n hx hb dL_law_219 rfl (lv_at hl 2 rfl) ?_
  refine lv_aload_n hx hb dL_law_220 rfl (lv_at hl 0 rfl) ?_
  refine lv_iload hx hb dL_law_221 (lv_at hl 4 rfl) ?_
  refine lv_iconst (v := 1) hx hb dL_law_223 (by decide) ?_
  refine lv_iadd hx hb dL_law_224 ?_
  refine va_sld hx hb hX hbl hbA hw.2.2.2 (show vp_in (nI i + 1) L from sX_in hi hL 1 (by omega)) dL_law_225 ?_
  refine L_R (As := [.int (sX xs i 1)]) (rest := [.int r]) ⟨hx, hb, hml, hown, hts⟩ k2 (cwV 1 hts gL_law_X12_end rfl rfl rfl (by decide +kernel) ⟨Nat.le_of_ble_eq_true rfl, Nat.le_of_ble_eq_true rfl⟩) STR_ok hsr hK (CRW_c h').1 (CRW_c h).2.2.1 (CRW_c h).2.2.2 hw rfl hl.1 rfl (Nat.le_of_ble_eq_true rfl) dL_law_226 hc0 (fun H locs hw => ?_)
  refine lv_icmp_eq (tgt := 910) hx hb dL_law_229 (by decide) (fun _ => ?_) (fun c1 => absurd rfl c1)
  refine W.widen (k := cells + 1) (n := slots + 6) (by omega) (by omega) ?_
  exact K ce' cr' o H locs ls h' hw (lv_sub hl [0, 1, 2, 3, 4] rfl)
set_option maxHeartbeats 1000000 in
set_option maxRecDepth 100000 in
theorem law_fault {p : Program} {l : Launch} {e : Env} {s : State} {m : MethodId} {below : List Frame} {meth : Method} {c : Code} {b L : Nat} {xs : Nat → Int32} {D : va_G} {y : Nat → ClassId} {adE adK adV : Nat → Nat} {tkA swA : Nat} {sa : Nat → Nat} {i cells slots : Nat} {Q : State → Prop} (htr : l.stackTraces = false) (C1 : LCX p s m meth c b L xs D y adE adK adV tkA swA sa) (hi : i + 6 ≤ L) (hL : L ≤ 3072) (hcs : cells + 1 ≤ 601024 ∧ slots + 6 ≤ 7293034) (K : LKK p l e s m below meth c b i D y adE cells slots Q) {ce cr : List va_E} {o : Nat → Int64} {H : Heap} {locs : List Loc} {ls : Array Slot} (h : CRW (adC s.heap.size) adE y (nAt s.heap.size 124) ce cr) (hw : LWo D s.heap.size (y 3) ce cr o s H locs) (hl : lv_has ls 7 [(0, .ref b), (1, .ref (adC s.heap.size 0)), (2, .ref (nAt s.heap.size 124 0)), (3, .ref (nA s.heap.size 143)), (4, .int (nI i))]) : W p l e room_1 s m #[Value.ref b] below meth c H locs cells slots Q (F0 m 290 ls []) := by
  obtain ⟨hx, hb, hml, hown, hts, hX, hbl, hK, hst, hsr⟩ := C1
  have hbA : ¬ oldS s b := Nat.not_le.mpr hbl
  have hc0 : cells ≤ room_1.cells ∧ slots ≤ room_1.slots := ⟨show cells ≤ 601024 by omega, show slots ≤ 7293034 by omega⟩
  refine lv_aload_n hx hb dL_law_290 rfl (lv_at hl 1 rfl) ?_
  obtain ⟨r, ce', cr', k1, k2, h'⟩ := lc_fault (l := l) (D := D) (adK := adK) (adV := adV) (tkA := tkA) (swA := swA) h 
  refine L_C (As := []) (rest := []) ⟨hx, hb, hml, hown, hts⟩ k1 (cwV 0 hts gL_law_X11_fault rfl rfl rfl (by decide +kernel) ⟨Nat.le_of_ble_eq_true rfl, Nat.le_of_ble_eq_true rfl⟩) STC_ok hst.1.1 hK (CRW_c h) hw rfl hl.1 rfl (Nat.le_of_ble_eq_true rfl) dL_law_291 hc0 (fun H locs hw => ?_)
  refine lv_aload_n hx hb dL_law_294 rfl (lv_at hl 2 rfl) ?_
  refine L_R (As := []) (rest := [.int r]) ⟨hx, hb, hml, hown, hts⟩ k2 (cwV 0 hts gL_law_X12_fault rfl rfl rfl (by decide +kernel) ⟨Nat.le_of_ble_eq_true rfl, Nat.le_of_ble_eq_true rfl⟩) STR_ok hsr hK (CRW_c h').1 (CRW_c h).2.2.1 (CRW_c h).2.2.2 hw rfl hl.1 rfl (Nat.le_of_ble_eq_true rfl) dL_law_295 hc0 (fun H locs hw => ?_)
  refine lv_icmp_eq (tgt := 910) hx hb dL_law_298 (by decide) (fun _ => ?_) (fun c1 => absurd rfl c1)
  refine W.widen (k := cells + 1) (n := slots + 6) (by omega) (by omega) ?_
  exact K ce' cr' o H locs ls h' hw (lv_sub hl [0, 1, 2, 3, 4] rfl)
set_option maxHeartbeats 1000000 in
set_option maxRecDepth 100000 in
theorem law_hear {p : Program} {l : Launch} {e : Env} {s : State} {m : MethodId} {below : List Frame} {meth : Method} {c : Code} {b L : Nat} {xs : Nat → Int32} {D : va_G} {y : Nat → ClassId} {adE adK adV : Nat → Nat} {tkA swA : Nat} {sa : Nat → Nat} {i cells slots : Nat} {Q : State → Prop} (htr : l.stackTraces = false) (C1 : LCX p s m meth c b L xs D y adE adK adV tkA swA sa) (hi : i + 6 ≤ L) (hL : L ≤ 3072) (hcs : cells + 1 ≤ 601024 ∧ slots + 6 ≤ 7293034) (K : LKK p l e s m below meth c b i D y adE cells slots Q) {ce cr : List va_E} {o : Nat → Int64} {H : Heap} {locs : List Loc} {ls : Array Slot} (h : CRW (adC s.heap.size) adE y (nAt s.heap.size 124) ce cr) (hw : LWo D s.heap.size (y 3) ce cr o s H locs) (hl : lv_has ls 7 [(0, .ref b), (1, .ref (adC s.heap.size 0)), (2, .ref (nAt s.heap.size 124 0)), (3, .ref (nA s.heap.size 143)), (4, .int (nI i))]) : W p l e room_1 s m #[Value.ref b] below meth c H locs cells slots Q (F0 m 303 ls []) := by
  obtain ⟨hx, hb, hml, hown, hts, hX, hbl, hK, hst, hsr⟩ := C1
  have hbA : ¬ oldS s b := Nat.not_le.mpr hbl
  have hc0 : cells ≤ room_1.cells ∧ slots ≤ room_1.slots := ⟨show cells ≤ 601024 by omega, show slots ≤ 7293034 by omega⟩
  refine lv_aload_n hx hb dL_law_303 rfl (lv_at hl 1 rfl) ?_
  refine lv_aload_n hx hb dL_law_304 rfl (lv_at hl 0 rfl) ?_
  refine lv_iload hx hb dL_law_305 (lv_at hl 4 rfl) ?_
  refine lv_iconst (v := 1) hx hb dL_law_307 (by decide) ?_
  refine lv_iadd hx hb dL_law_308 ?_
  refine va_sld hx hb hX hbl hbA hw.2.2.2 (show vp_in (nI i + 1) L from sX_in hi hL 1 (by omega)) dL_law_309 ?_
  obtain ⟨r, ce', cr', k1, k2, h'⟩ := lc_hear (l := l) (D := D) (adK := adK) (adV := adV) (tkA := tkA) (swA := swA) h ((sX xs i 1))
  refine L_C (As := [.int (sX xs i 1)]) (rest := []) ⟨hx, hb, hml, hown, hts⟩ k1 (cwV 1 hts gL_law_X11_hear rfl rfl rfl (by decide +kernel) ⟨Nat.le_of_ble_eq_true rfl, Nat.le_of_ble_eq_true rfl⟩) STC_ok hst.1.1 hK (CRW_c h) hw rfl hl.1 rfl (Nat.le_of_ble_eq_true rfl) dL_law_310 hc0 (fun H locs hw => ?_)
  refine lv_aload_n hx hb dL_law_313 rfl (lv_at hl 2 rfl) ?_
  refine lv_aload_n hx hb dL_law_314 rfl (lv_at hl 0 rfl) ?_
  refine lv_iload hx hb dL_law_315 (lv_at hl 4 rfl) ?_
  refine lv_iconst (v := 1) hx hb dL_law_317 (by decide) ?_
  refine lv_iadd hx hb dL_law_318 ?_
  refine va_sld hx hb hX hbl hbA hw.2.2.2 (show vp_in (nI i + 1) L from sX_in hi hL 1 (by omega)) dL_law_319 ?_
  refine L_R (As := [.int (sX xs i 1)]) (rest := [.int r]) ⟨hx, hb, hml, hown, hts⟩ k2 (cwV 1 hts gL_law_X12_hear rfl rfl rfl (by decide +kernel) ⟨Nat.le_of_ble_eq_true rfl, Nat.le_of_ble_eq_true rfl⟩) STR_ok hsr hK (CRW_c h').1 (CRW_c h).2.2.1 (CRW_c h).2.2.2 hw rfl hl.1 rfl (Nat.le_of_ble_eq_true rfl) dL_law_320 hc0 (fun H locs hw => ?_)
  refine lv_icmp_eq (tgt := 910) hx hb dL_law_323 (by decide) (fun _ => ?_) (fun c1 => absurd rfl c1)
  refine W.widen (k := cells + 1) (n := slots + 6) (by omega) (by omega) ?_
  exact K ce' cr' o H locs ls h' hw (lv_sub hl [0, 1, 2, 3, 4] rfl)
set_option maxHeartbeats 1000000 in
set_option maxRecDepth 100000 in
theorem law_happening {p : Program} {l : Launch} {e : Env} {s : State} {m : MethodId} {below : List Frame} {meth : Method} {c : Code} {b L : Nat} {xs : Nat → Int32} {D : va_G} {y : Nat → ClassId} {adE adK adV : Nat → Nat} {tkA swA : Nat} {sa : Nat → Nat} {i cells slots : Nat} {Q : State → Prop} (htr : l.stackTraces = false) (C1 : LCX p s m meth c b L xs D y adE adK adV tkA swA sa) (hi : i + 6 ≤ L) (hL : L ≤ 3072) (hcs : cells + 1 ≤ 601024 ∧ slots + 6 ≤ 7293034) (K : LKK p l e s m below meth c b i D y adE cells slots Q) {ce cr : List va_E} {o : Nat → Int64} {H : Heap} {locs : List Loc} {ls : Array Slot} (h : CRW (adC s.heap.size) adE y (nAt s.heap.size 124) ce cr) (hw : LWo D s.heap.size (y 3) ce cr o s H locs) (hl : lv_has ls 7 [(0, .ref b), (1, .ref (adC s.heap.size 0)), (2, .ref (nAt s.heap.size 124 0)), (3, .ref (nA s.heap.size 143)), (4, .int (nI i))]) : W p l e room_1 s m #[Value.ref b] below meth c H locs cells slots Q (F0 m 408 ls []) := by
  obtain ⟨hx, hb, hml, hown, hts, hX, hbl, hK, hst, hsr⟩ := C1
  have hbA : ¬ oldS s b := Nat.not_le.mpr hbl
  have hc0 : cells ≤ room_1.cells ∧ slots ≤ room_1.slots := ⟨show cells ≤ 601024 by omega, show slots ≤ 7293034 by omega⟩
  refine lv_aload_n hx hb dL_law_408 rfl (lv_at hl 1 rfl) ?_
  obtain ⟨r, ce', cr', k1, k2, h'⟩ := lc_happening (l := l) (D := D) (adK := adK) (adV := adV) (tkA := tkA) (swA := swA) h 
  refine L_C (As := []) (rest := []) ⟨hx, hb, hml, hown, hts⟩ k1 (cwV 0 hts gL_law_X11_happening rfl rfl rfl (by decide +kernel) ⟨Nat.le_of_ble_eq_true rfl, Nat.le_of_ble_eq_true rfl⟩) STC_ok hst.1.1 hK (CRW_c h) hw rfl hl.1 rfl (Nat.le_of_ble_eq_true rfl) dL_law_409 hc0 (fun H locs hw => ?_)
  refine lv_aload_n hx hb dL_law_412 rfl (lv_at hl 2 rfl) ?_
  refine L_R (As := []) (rest := [.int r]) ⟨hx, hb, hml, hown, hts⟩ k2 (cwV 0 hts gL_law_X12_happening rfl rfl rfl (by decide +kernel) ⟨Nat.le_of_ble_eq_true rfl, Nat.le_of_ble_eq_true rfl⟩) STR_ok hsr hK (CRW_c h').1 (CRW_c h).2.2.1 (CRW_c h).2.2.2 hw rfl hl.1 rfl (Nat.le_of_ble_eq_true rfl) dL_law_413 hc0 (fun H locs hw => ?_)
  refine lv_icmp_eq (tgt := 910) hx hb dL_law_416 (by decide) (fun _ => ?_) (fun c1 => absurd rfl c1)
  refine W.widen (k := cells + 1) (n := slots + 6) (by omega) (by omega) ?_
  exact K ce' cr' o H locs ls h' hw (lv_sub hl [0, 1, 2, 3, 4] rfl)
set_option maxHeartbeats 1000000 in
set_option maxRecDepth 100000 in
theorem law_name {p : Program} {l : Launch} {e : Env} {s : State} {m : MethodId} {below : List Frame} {meth : Method} {c : Code} {b L : Nat} {xs : Nat → Int32} {D : va_G} {y : Nat → ClassId} {adE adK adV : Nat → Nat} {tkA swA : Nat} {sa : Nat → Nat} {i cells slots : Nat} {Q : State → Prop} (htr : l.stackTraces = false) (C1 : LCX p s m meth c b L xs D y adE adK adV tkA swA sa) (hi : i + 6 ≤ L) (hL : L ≤ 3072) (hcs : cells + 1 ≤ 601024 ∧ slots + 6 ≤ 7293034) (K : LKK p l e s m below meth c b i D y adE cells slots Q) {ce cr : List va_E} {o : Nat → Int64} {H : Heap} {locs : List Loc} {ls : Array Slot} (h : CRW (adC s.heap.size) adE y (nAt s.heap.size 124) ce cr) (hw : LWo D s.heap.size (y 3) ce cr o s H locs) (hl : lv_has ls 7 [(0, .ref b), (1, .ref (adC s.heap.size 0)), (2, .ref (nAt s.heap.size 124 0)), (3, .ref (nA s.heap.size 143)), (4, .int (nI i))]) : W p l e room_1 s m #[Value.ref b] below meth c H locs cells slots Q (F0 m 421 ls []) := by
  obtain ⟨hx, hb, hml, hown, hts, hX, hbl, hK, hst, hsr⟩ := C1
  have hbA : ¬ oldS s b := Nat.not_le.mpr hbl
  have hc0 : cells ≤ room_1.cells ∧ slots ≤ room_1.slots := ⟨show cells ≤ 601024 by omega, show slots ≤ 7293034 by omega⟩
  refine lv_aload_n hx hb dL_law_421 rfl (lv_at hl 1 rfl) ?_
  refine lv_aload_n hx hb dL_law_422 rfl (lv_at hl 0 rfl) ?_
  refine lv_iload hx hb dL_law_423 (lv_at hl 4 rfl) ?_
  refine lv_iconst (v := 1) hx hb dL_law_425 (by decide) ?_
  refine lv_iadd hx hb dL_law_426 ?_
  refine va_sld hx hb hX hbl hbA hw.2.2.2 (show vp_in (nI i + 1) L from sX_in hi hL 1 (by omega)) dL_law_427 ?_
  obtain ⟨r, ce', cr', k1, k2, h'⟩ := lc_name (l := l) (D := D) (adK := adK) (adV := adV) (tkA := tkA) (swA := swA) h ((sX xs i 1))
  refine L_C (As := [.int (sX xs i 1)]) (rest := []) ⟨hx, hb, hml, hown, hts⟩ k1 (cwV 1 hts gL_law_X11_name rfl rfl rfl (by decide +kernel) ⟨Nat.le_of_ble_eq_true rfl, Nat.le_of_ble_eq_true rfl⟩) STC_ok hst.1.1 hK (CRW_c h) hw rfl hl.1 rfl (Nat.le_of_ble_eq_true rfl) dL_law_428 hc0 (fun H locs hw => ?_)
  refine lv_aload_n hx hb dL_law_431 rfl (lv_at hl 2 rfl) ?_
  refine lv_aload_n hx hb dL_law_432 rfl (lv_at hl 0 rfl) ?_
  refine lv_iload hx hb dL_law_433 (lv_at hl 4 rfl) ?_
  refine lv_iconst (v := 1) hx hb dL_law_435 (by decide) ?_
  refine lv_iadd hx hb dL_law_436 ?_
  refine va_sld hx hb hX hbl hbA hw.2.2.2 (show vp_in (nI i + 1) L from sX_in hi hL 1 (by omega)) dL_law_437 ?_
  refine L_R (As := [.int (sX xs i 1)]) (rest := [.int r]) ⟨hx, hb, hml, hown, hts⟩ k2 (cwV 1 hts gL_law_X12_name rfl rfl rfl (by decide +kernel) ⟨Nat.le_of_ble_eq_true rfl, Nat.le_of_ble_eq_true rfl⟩) STR_ok hsr hK (CRW_c h').1 (CRW_c h).2.2.1 (CRW_c h).2.2.2 hw rfl hl.1 rfl (Nat.le_of_ble_eq_true rfl) dL_law_438 hc0 (fun H locs hw => ?_)
  refine lv_icmp_eq (tgt := 910) hx hb dL_law_441 (by decide) (fun _ => ?_) (fun c1 => absurd rfl c1)
  refine W.widen (k := cells + 1) (n := slots + 6) (by omega) (by omega) ?_
  exact K ce' cr' o H locs ls h' hw (lv_sub hl [0, 1, 2, 3, 4] rfl)
set_option maxHeartbeats 1000000 in
set_option maxRecDepth 100000 in
theorem law_agree {p : Program} {l : Launch} {e : Env} {s : State} {m : MethodId} {below : List Frame} {meth : Method} {c : Code} {b L : Nat} {xs : Nat → Int32} {D : va_G} {y : Nat → ClassId} {adE adK adV : Nat → Nat} {tkA swA : Nat} {sa : Nat → Nat} {i cells slots : Nat} {Q : State → Prop} (htr : l.stackTraces = false) (C1 : LCX p s m meth c b L xs D y adE adK adV tkA swA sa) (hi : i + 6 ≤ L) (hL : L ≤ 3072) (hcs : cells + 1 ≤ 601024 ∧ slots + 6 ≤ 7293034) (K : LKK p l e s m below meth c b i D y adE cells slots Q) {ce cr : List va_E} {o : Nat → Int64} {H : Heap} {locs : List Loc} {ls : Array Slot} (h : CRW (adC s.heap.size) adE y (nAt s.heap.size 124) ce cr) (hw : LWo D s.heap.size (y 3) ce cr o s H locs) (hl : lv_has ls 7 [(0, .ref b), (1, .ref (adC s.heap.size 0)), (2, .ref (nAt s.heap.size 124 0)), (3, .ref (nA s.heap.size 143)), (4, .int (nI i))]) : W p l e room_1 s m #[Value.ref b] below meth c H locs cells slots Q (F0 m 502 ls []) := by
  obtain ⟨hx, hb, hml, hown, hts, hX, hbl, hK, hst, hsr⟩ := C1
  have hbA : ¬ oldS s b := Nat.not_le.mpr hbl
  have hc0 : cells ≤ room_1.cells ∧ slots ≤ room_1.slots := ⟨show cells ≤ 601024 by omega, show slots ≤ 7293034 by omega⟩
  refine lv_aload_n hx hb dL_law_502 rfl (lv_at hl 1 rfl) ?_
  obtain ⟨r, ce', cr', k1, k2, h'⟩ := lc_agree (l := l) (D := D) (adK := adK) (adV := adV) (tkA := tkA) (swA := swA) h 
  refine L_C (As := []) (rest := []) ⟨hx, hb, hml, hown, hts⟩ k1 (cwV 0 hts gL_law_X11_agree rfl rfl rfl (by decide +kernel) ⟨Nat.le_of_ble_eq_true rfl, Nat.le_of_ble_eq_true rfl⟩) STC_ok hst.1.1 hK (CRW_c h) hw rfl hl.1 rfl (Nat.le_of_ble_eq_true rfl) dL_law_503 hc0 (fun H locs hw => ?_)
  refine lv_aload_n hx hb dL_law_506 rfl (lv_at hl 2 rfl) ?_
  refine L_R (As := []) (rest := [.int r]) ⟨hx, hb, hml, hown, hts⟩ k2 (cwV 0 hts gL_law_X12_agree rfl rfl rfl (by decide +kernel) ⟨Nat.le_of_ble_eq_true rfl, Nat.le_of_ble_eq_true rfl⟩) STR_ok hsr hK (CRW_c h').1 (CRW_c h).2.2.1 (CRW_c h).2.2.2 hw rfl hl.1 rfl (Nat.le_of_ble_eq_true rfl) dL_law_507 hc0 (fun H locs hw => ?_)
  refine lv_icmp_eq (tgt := 910) hx hb dL_law_510 (by decide) (fun _ => ?_) (fun c1 => absurd rfl c1)
  refine W.widen (k := cells + 1) (n := slots + 6) (by omega) (by omega) ?_
  exact K ce' cr' o H locs ls h' hw (lv_sub hl [0, 1, 2, 3, 4] rfl)
set_option maxHeartbeats 1000000 in
set_option maxRecDepth 100000 in
theorem law_bound {p : Program} {l : Launch} {e : Env} {s : State} {m : MethodId} {below : List Frame} {meth : Method} {c : Code} {b L : Nat} {xs : Nat → Int32} {D : va_G} {y : Nat → ClassId} {adE adK adV : Nat → Nat} {tkA swA : Nat} {sa : Nat → Nat} {i cells slots : Nat} {Q : State → Prop} (htr : l.stackTraces = false) (C1 : LCX p s m meth c b L xs D y adE adK adV tkA swA sa) (hi : i + 6 ≤ L) (hL : L ≤ 3072) (hcs : cells + 1 ≤ 601024 ∧ slots + 6 ≤ 7293034) (K : LKK p l e s m below meth c b i D y adE cells slots Q) {ce cr : List va_E} {o : Nat → Int64} {H : Heap} {locs : List Loc} {ls : Array Slot} (h : CRW (adC s.heap.size) adE y (nAt s.heap.size 124) ce cr) (hw : LWo D s.heap.size (y 3) ce cr o s H locs) (hl : lv_has ls 7 [(0, .ref b), (1, .ref (adC s.heap.size 0)), (2, .ref (nAt s.heap.size 124 0)), (3, .ref (nA s.heap.size 143)), (4, .int (nI i))]) : W p l e room_1 s m #[Value.ref b] below meth c H locs cells slots Q (F0 m 515 ls []) := by
  obtain ⟨hx, hb, hml, hown, hts, hX, hbl, hK, hst, hsr⟩ := C1
  have hbA : ¬ oldS s b := Nat.not_le.mpr hbl
  have hc0 : cells ≤ room_1.cells ∧ slots ≤ room_1.slots := ⟨show cells ≤ 601024 by omega, show slots ≤ 7293034 by omega⟩
  refine lv_aload_n hx hb dL_law_515 rfl (lv_at hl 1 rfl) ?_
  refine lv_aload_n hx hb dL_law_516 rfl (lv_at hl 0 rfl) ?_
  refine lv_iload hx hb dL_law_517 (lv_at hl 4 rfl) ?_
  refine lv_iconst (v := 1) hx hb dL_law_519 (by decide) ?_
  refine lv_iadd hx hb dL_law_520 ?_
  refine va_sld hx hb hX hbl hbA hw.2.2.2 (show vp_in (nI i + 1) L from sX_in hi hL 1 (by omega)) dL_law_521 ?_
  refine lv_aload_n hx hb dL_law_522 rfl (lv_at hl 0 rfl) ?_
  refine lv_iload hx hb dL_law_523 (lv_at hl 4 rfl) ?_
  refine lv_iconst (v := 2) hx hb dL_law_525 (by decide) ?_
  refine lv_iadd hx hb dL_law_526 ?_
  refine va_sld hx hb hX hbl hbA hw.2.2.2 (show vp_in (nI i + 2) L from sX_in hi hL 2 (by omega)) dL_law_527 ?_
  obtain ⟨r, ce', cr', k1, k2, h'⟩ := lc_bound (l := l) (D := D) (adK := adK) (adV := adV) (tkA := tkA) (swA := swA) h ((sX xs i 1)) ((sX xs i 2))
  refine L_C (As := [.int (sX xs i 1), .int (sX xs i 2)]) (rest := []) ⟨hx, hb, hml, hown, hts⟩ k1 (cwV 2 hts gL_law_X11_bound rfl rfl rfl (by decide +kernel) ⟨Nat.le_of_ble_eq_true rfl, Nat.le_of_ble_eq_true rfl⟩) STC_ok hst.1.1 hK (CRW_c h) hw rfl hl.1 rfl (Nat.le_of_ble_eq_true rfl) dL_law_528 hc0 (fun H locs hw => ?_)
  refine lv_aload_n hx hb dL_law_531 rfl (lv_at hl 2 rfl) ?_
  refine lv_aload_n hx hb dL_law_532 rfl (lv_at hl 0 rfl) ?_
  refine lv_iload hx hb dL_law_533 (lv_at hl 4 rfl) ?_
  refine lv_iconst (v := 1) hx hb dL_law_535 (by decide) ?_
  refine lv_iadd hx hb dL_law_536 ?_
  refine va_sld hx hb hX hbl hbA hw.2.2.2 (show vp_in (nI i + 1) L from sX_in hi hL 1 (by omega)) dL_law_537 ?_
  refine lv_aload_n hx hb dL_law_538 rfl (lv_at hl 0 rfl) ?_
  refine lv_iload hx hb dL_law_539 (lv_at hl 4 rfl) ?_
  refine lv_iconst (v := 2) hx hb dL_law_541 (by decide) ?_
  refine lv_iadd hx hb dL_law_542 ?_
  refine va_sld hx hb hX hbl hbA hw.2.2.2 (show vp_in (nI i + 2) L from sX_in hi hL 2 (by omega)) dL_law_543 ?_
  refine L_R (As := [.int (sX xs i 1), .int (sX xs i 2)]) (rest := [.int r]) ⟨hx, hb, hml, hown, hts⟩ k2 (cwV 2 hts gL_law_X12_bound rfl rfl rfl (by decide +kernel) ⟨Nat.le_of_ble_eq_true rfl, Nat.le_of_ble_eq_true rfl⟩) STR_ok hsr hK (CRW_c h').1 (CRW_c h).2.2.1 (CRW_c h).2.2.2 hw rfl hl.1 rfl (Nat.le_of_ble_eq_true rfl) dL_law_544 hc0 (fun H locs hw => ?_)
  refine lv_icmp_eq (tgt := 910) hx hb dL_law_547 (by decide) (fun _ => ?_) (fun c1 => absurd rfl c1)
  refine W.widen (k := cells + 1) (n := slots + 6) (by omega) (by omega) ?_
  exact K ce' cr' o H locs ls h' hw (lv_sub hl [0, 1, 2, 3, 4] rfl)
set_option maxHeartbeats 1000000 in
set_option maxRecDepth 100000 in
theorem law_order {p : Program} {l : Launch} {e : Env} {s : State} {m : MethodId} {below : List Frame} {meth : Method} {c : Code} {b L : Nat} {xs : Nat → Int32} {D : va_G} {y : Nat → ClassId} {adE adK adV : Nat → Nat} {tkA swA : Nat} {sa : Nat → Nat} {i cells slots : Nat} {Q : State → Prop} (htr : l.stackTraces = false) (C1 : LCX p s m meth c b L xs D y adE adK adV tkA swA sa) (hi : i + 6 ≤ L) (hL : L ≤ 3072) (hcs : cells + 1 ≤ 601024 ∧ slots + 6 ≤ 7293034) (K : LKK p l e s m below meth c b i D y adE cells slots Q) {ce cr : List va_E} {o : Nat → Int64} {H : Heap} {locs : List Loc} {ls : Array Slot} (h : CRW (adC s.heap.size) adE y (nAt s.heap.size 124) ce cr) (hw : LWo D s.heap.size (y 3) ce cr o s H locs) (hl : lv_has ls 7 [(0, .ref b), (1, .ref (adC s.heap.size 0)), (2, .ref (nAt s.heap.size 124 0)), (3, .ref (nA s.heap.size 143)), (4, .int (nI i))]) : W p l e room_1 s m #[Value.ref b] below meth c H locs cells slots Q (F0 m 648 ls []) := by
  obtain ⟨hx, hb, hml, hown, hts, hX, hbl, hK, hst, hsr⟩ := C1
  have hbA : ¬ oldS s b := Nat.not_le.mpr hbl
  have hc0 : cells ≤ room_1.cells ∧ slots ≤ room_1.slots := ⟨show cells ≤ 601024 by omega, show slots ≤ 7293034 by omega⟩
  refine lv_aload_n hx hb dL_law_648 rfl (lv_at hl 1 rfl) ?_
  refine lv_aload_n hx hb dL_law_649 rfl (lv_at hl 0 rfl) ?_
  refine lv_iload hx hb dL_law_650 (lv_at hl 4 rfl) ?_
  refine lv_iconst (v := 1) hx hb dL_law_652 (by decide) ?_
  refine lv_iadd hx hb dL_law_653 ?_
  refine va_sld hx hb hX hbl hbA hw.2.2.2 (show vp_in (nI i + 1) L from sX_in hi hL 1 (by omega)) dL_law_654 ?_
  refine lv_aload_n hx hb dL_law_655 rfl (lv_at hl 0 rfl) ?_
  refine lv_iload hx hb dL_law_656 (lv_at hl 4 rfl) ?_
  refine lv_iconst (v := 2) hx hb dL_law_658 (by decide) ?_
  refine lv_iadd hx hb dL_law_659 ?_
  refine va_sld hx hb hX hbl hbA hw.2.2.2 (show vp_in (nI i + 2) L from sX_in hi hL 2 (by omega)) dL_law_660 ?_
  obtain ⟨r, ce', cr', k1, k2, h'⟩ := lc_order (l := l) (D := D) (adK := adK) (adV := adV) (tkA := tkA) (swA := swA) h ((sX xs i 1)) ((sX xs i 2))
  refine L_C (As := [.int (sX xs i 1), .int (sX xs i 2)]) (rest := []) ⟨hx, hb, hml, hown, hts⟩ k1 (cwV 2 hts gL_law_X11_order rfl rfl rfl (by decide +kernel) ⟨Nat.le_of_ble_eq_true rfl, Nat.le_of_ble_eq_true rfl⟩) STC_ok hst.1.1 hK (CRW_c h) hw rfl hl.1 rfl (Nat.le_of_ble_eq_true rfl) dL_law_661 hc0 (fun H locs hw => ?_)
  refine lv_aload_n hx hb dL_law_664 rfl (lv_at hl 2 rfl) ?_
  refine lv_aload_n hx hb dL_law_665 rfl (lv_at hl 0 rfl) ?_
  refine lv_iload hx hb dL_law_666 (lv_at hl 4 rfl) ?_
  refine lv_iconst (v := 1) hx hb dL_law_668 (by decide) ?_
  refine lv_iadd hx hb dL_law_669 ?_
  refine va_sld hx hb hX hbl hbA hw.2.2.2 (show vp_in (nI i + 1) L from sX_in hi hL 1 (by omega)) dL_law_670 ?_
  refine lv_aload_n hx hb dL_law_671 rfl (lv_at hl 0 rfl) ?_
  refine lv_iload hx hb dL_law_672 (lv_at hl 4 rfl) ?_
  refine lv_iconst (v := 2) hx hb dL_law_674 (by decide) ?_
  refine lv_iadd hx hb dL_law_675 ?_
  refine va_sld hx hb hX hbl hbA hw.2.2.2 (show vp_in (nI i + 2) L from sX_in hi hL 2 (by omega)) dL_law_676 ?_
  refine L_R (As := [.int (sX xs i 1), .int (sX xs i 2)]) (rest := [.int r]) ⟨hx, hb, hml, hown, hts⟩ k2 (cwV 2 hts gL_law_X12_order rfl rfl rfl (by decide +kernel) ⟨Nat.le_of_ble_eq_true rfl, Nat.le_of_ble_eq_true rfl⟩) STR_ok hsr hK (CRW_c h').1 (CRW_c h).2.2.1 (CRW_c h).2.2.2 hw rfl hl.1 rfl (Nat.le_of_ble_eq_true rfl) dL_law_677 hc0 (fun H locs hw => ?_)
  refine lv_icmp_eq (tgt := 910) hx hb dL_law_680 (by decide) (fun _ => ?_) (fun c1 => absurd rfl c1)
  refine W.widen (k := cells + 1) (n := slots + 6) (by omega) (by omega) ?_
  exact K ce' cr' o H locs ls h' hw (lv_sub hl [0, 1, 2, 3, 4] rfl)
set_option maxHeartbeats 1000000 in
set_option maxRecDepth 100000 in
theorem law_quarrel {p : Program} {l : Launch} {e : Env} {s : State} {m : MethodId} {below : List Frame} {meth : Method} {c : Code} {b L : Nat} {xs : Nat → Int32} {D : va_G} {y : Nat → ClassId} {adE adK adV : Nat → Nat} {tkA swA : Nat} {sa : Nat → Nat} {i cells slots : Nat} {Q : State → Prop} (htr : l.stackTraces = false) (C1 : LCX p s m meth c b L xs D y adE adK adV tkA swA sa) (hi : i + 6 ≤ L) (hL : L ≤ 3072) (hcs : cells + 1 ≤ 601024 ∧ slots + 6 ≤ 7293034) (K : LKK p l e s m below meth c b i D y adE cells slots Q) {ce cr : List va_E} {o : Nat → Int64} {H : Heap} {locs : List Loc} {ls : Array Slot} (h : CRW (adC s.heap.size) adE y (nAt s.heap.size 124) ce cr) (hw : LWo D s.heap.size (y 3) ce cr o s H locs) (hl : lv_has ls 7 [(0, .ref b), (1, .ref (adC s.heap.size 0)), (2, .ref (nAt s.heap.size 124 0)), (3, .ref (nA s.heap.size 143)), (4, .int (nI i))]) : W p l e room_1 s m #[Value.ref b] below meth c H locs cells slots Q (F0 m 685 ls []) := by
  obtain ⟨hx, hb, hml, hown, hts, hX, hbl, hK, hst, hsr⟩ := C1
  have hbA : ¬ oldS s b := Nat.not_le.mpr hbl
  have hc0 : cells ≤ room_1.cells ∧ slots ≤ room_1.slots := ⟨show cells ≤ 601024 by omega, show slots ≤ 7293034 by omega⟩
  refine lv_aload_n hx hb dL_law_685 rfl (lv_at hl 1 rfl) ?_
  obtain ⟨r, ce', cr', k1, k2, h'⟩ := lc_quarrel (l := l) (D := D) (adK := adK) (adV := adV) (tkA := tkA) (swA := swA) h 
  refine L_C (As := []) (rest := []) ⟨hx, hb, hml, hown, hts⟩ k1 (cwV 0 hts gL_law_X11_quarrel rfl rfl rfl (by decide +kernel) ⟨Nat.le_of_ble_eq_true rfl, Nat.le_of_ble_eq_true rfl⟩) STC_ok hst.1.1 hK (CRW_c h) hw rfl hl.1 rfl (Nat.le_of_ble_eq_true rfl) dL_law_686 hc0 (fun H locs hw => ?_)
  refine lv_aload_n hx hb dL_law_689 rfl (lv_at hl 2 rfl) ?_
  refine L_R (As := []) (rest := [.int r]) ⟨hx, hb, hml, hown, hts⟩ k2 (cwV 0 hts gL_law_X12_quarrel rfl rfl rfl (by decide +kernel) ⟨Nat.le_of_ble_eq_true rfl, Nat.le_of_ble_eq_true rfl⟩) STR_ok hsr hK (CRW_c h').1 (CRW_c h).2.2.1 (CRW_c h).2.2.2 hw rfl hl.1 rfl (Nat.le_of_ble_eq_true rfl) dL_law_690 hc0 (fun H locs hw => ?_)
  refine lv_icmp_eq (tgt := 910) hx hb dL_law_693 (by decide) (fun _ => ?_) (fun c1 => absurd rfl c1)
  refine W.widen (k := cells + 1) (n := slots + 6) (by omega) (by omega) ?_
  exact K ce' cr' o H locs ls h' hw (lv_sub hl [0, 1, 2, 3, 4] rfl)
set_option maxHeartbeats 1000000 in
set_option maxRecDepth 100000 in
theorem law_quarrelled {p : Program} {l : Launch} {e : Env} {s : State} {m : MethodId} {below : List Frame} {meth : Method} {c : Code} {b L : Nat} {xs : Nat → Int32} {D : va_G} {y : Nat → ClassId} {adE adK adV : Nat → Nat} {tkA swA : Nat} {sa : Nat → Nat} {i cells slots : Nat} {Q : State → Prop} (htr : l.stackTraces = false) (C1 : LCX p s m meth c b L xs D y adE adK adV tkA swA sa) (hi : i + 6 ≤ L) (hL : L ≤ 3072) (hcs : cells + 1 ≤ 601024 ∧ slots + 6 ≤ 7293034) (K : LKK p l e s m below meth c b i D y adE cells slots Q) {ce cr : List va_E} {o : Nat → Int64} {H : Heap} {locs : List Loc} {ls : Array Slot} (h : CRW (adC s.heap.size) adE y (nAt s.heap.size 124) ce cr) (hw : LWo D s.heap.size (y 3) ce cr o s H locs) (hl : lv_has ls 7 [(0, .ref b), (1, .ref (adC s.heap.size 0)), (2, .ref (nAt s.heap.size 124 0)), (3, .ref (nA s.heap.size 143)), (4, .int (nI i))]) : W p l e room_1 s m #[Value.ref b] below meth c H locs cells slots Q (F0 m 698 ls []) := by
  obtain ⟨hx, hb, hml, hown, hts, hX, hbl, hK, hst, hsr⟩ := C1
  have hbA : ¬ oldS s b := Nat.not_le.mpr hbl
  have hc0 : cells ≤ room_1.cells ∧ slots ≤ room_1.slots := ⟨show cells ≤ 601024 by omega, show slots ≤ 7293034 by omega⟩
  refine lv_aload_n hx hb dL_law_698 rfl (lv_at hl 1 rfl) ?_
  refine lv_aload_n hx hb dL_law_699 rfl (lv_at hl 0 rfl) ?_
  refine lv_iload hx hb dL_law_700 (lv_at hl 4 rfl) ?_
  refine lv_iconst (v := 1) hx hb dL_law_702 (by decide) ?_
  refine lv_iadd hx hb dL_law_703 ?_
  refine va_sld hx hb hX hbl hbA hw.2.2.2 (show vp_in (nI i + 1) L from sX_in hi hL 1 (by omega)) dL_law_704 ?_
  obtain ⟨r, ce', cr', k1, k2, h'⟩ := lc_quarrelled (l := l) (D := D) (adK := adK) (adV := adV) (tkA := tkA) (swA := swA) h ((sX xs i 1))
  refine L_C (As := [.int (sX xs i 1)]) (rest := []) ⟨hx, hb, hml, hown, hts⟩ k1 (cwV 1 hts gL_law_X11_quarrelled rfl rfl rfl (by decide +kernel) ⟨Nat.le_of_ble_eq_true rfl, Nat.le_of_ble_eq_true rfl⟩) STC_ok hst.1.1 hK (CRW_c h) hw rfl hl.1 rfl (Nat.le_of_ble_eq_true rfl) dL_law_705 hc0 (fun H locs hw => ?_)
  refine lv_aload_n hx hb dL_law_708 rfl (lv_at hl 2 rfl) ?_
  refine lv_aload_n hx hb dL_law_709 rfl (lv_at hl 0 rfl) ?_
  refine lv_iload hx hb dL_law_710 (lv_at hl 4 rfl) ?_
  refine lv_iconst (v := 1) hx hb dL_law_712 (by decide) ?_
  refine lv_iadd hx hb dL_law_713 ?_
  refine va_sld hx hb hX hbl hbA hw.2.2.2 (show vp_in (nI i + 1) L from sX_in hi hL 1 (by omega)) dL_law_714 ?_
  refine L_R (As := [.int (sX xs i 1)]) (rest := [.int r]) ⟨hx, hb, hml, hown, hts⟩ k2 (cwV 1 hts gL_law_X12_quarrelled rfl rfl rfl (by decide +kernel) ⟨Nat.le_of_ble_eq_true rfl, Nat.le_of_ble_eq_true rfl⟩) STR_ok hsr hK (CRW_c h').1 (CRW_c h).2.2.1 (CRW_c h).2.2.2 hw rfl hl.1 rfl (Nat.le_of_ble_eq_true rfl) dL_law_715 hc0 (fun H locs hw => ?_)
  refine lv_icmp_eq (tgt := 910) hx hb dL_law_718 (by decide) (fun _ => ?_) (fun c1 => absurd rfl c1)
  refine W.widen (k := cells + 1) (n := slots + 6) (by omega) (by omega) ?_
  exact K ce' cr' o H locs ls h' hw (lv_sub hl [0, 1, 2, 3, 4] rfl)
set_option maxHeartbeats 1000000 in
set_option maxRecDepth 100000 in
theorem law_leave {p : Program} {l : Launch} {e : Env} {s : State} {m : MethodId} {below : List Frame} {meth : Method} {c : Code} {b L : Nat} {xs : Nat → Int32} {D : va_G} {y : Nat → ClassId} {adE adK adV : Nat → Nat} {tkA swA : Nat} {sa : Nat → Nat} {i cells slots : Nat} {Q : State → Prop} (htr : l.stackTraces = false) (C1 : LCX p s m meth c b L xs D y adE adK adV tkA swA sa) (hi : i + 6 ≤ L) (hL : L ≤ 3072) (hcs : cells + 1 ≤ 601024 ∧ slots + 6 ≤ 7293034) (K : LKK p l e s m below meth c b i D y adE cells slots Q) {ce cr : List va_E} {o : Nat → Int64} {H : Heap} {locs : List Loc} {ls : Array Slot} (h : CRW (adC s.heap.size) adE y (nAt s.heap.size 124) ce cr) (hw : LWo D s.heap.size (y 3) ce cr o s H locs) (hl : lv_has ls 7 [(0, .ref b), (1, .ref (adC s.heap.size 0)), (2, .ref (nAt s.heap.size 124 0)), (3, .ref (nA s.heap.size 143)), (4, .int (nI i))]) : W p l e room_1 s m #[Value.ref b] below meth c H locs cells slots Q (F0 m 723 ls []) := by
  obtain ⟨hx, hb, hml, hown, hts, hX, hbl, hK, hst, hsr⟩ := C1
  have hbA : ¬ oldS s b := Nat.not_le.mpr hbl
  have hc0 : cells ≤ room_1.cells ∧ slots ≤ room_1.slots := ⟨show cells ≤ 601024 by omega, show slots ≤ 7293034 by omega⟩
  refine lv_aload_n hx hb dL_law_723 rfl (lv_at hl 1 rfl) ?_
  obtain ⟨r, ce', cr', k1, k2, h'⟩ := lc_leave (l := l) (D := D) (adK := adK) (adV := adV) (tkA := tkA) (swA := swA) h 
  refine L_C (As := []) (rest := []) ⟨hx, hb, hml, hown, hts⟩ k1 (cwV 0 hts gL_law_X11_leave rfl rfl rfl (by decide +kernel) ⟨Nat.le_of_ble_eq_true rfl, Nat.le_of_ble_eq_true rfl⟩) STC_ok hst.1.1 hK (CRW_c h) hw rfl hl.1 rfl (Nat.le_of_ble_eq_true rfl) dL_law_724 hc0 (fun H locs hw => ?_)
  refine lv_aload_n hx hb dL_law_727 rfl (lv_at hl 2 rfl) ?_
  refine L_R (As := []) (rest := [.int r]) ⟨hx, hb, hml, hown, hts⟩ k2 (cwV 0 hts gL_law_X12_leave rfl rfl rfl (by decide +kernel) ⟨Nat.le_of_ble_eq_true rfl, Nat.le_of_ble_eq_true rfl⟩) STR_ok hsr hK (CRW_c h').1 (CRW_c h).2.2.1 (CRW_c h).2.2.2 hw rfl hl.1 rfl (Nat.le_of_ble_eq_true rfl) dL_law_728 hc0 (fun H locs hw => ?_)
  refine lv_icmp_eq (tgt := 910) hx hb dL_law_731 (by decide) (fun _ => ?_) (fun c1 => absurd rfl c1)
  refine W.widen (k := cells + 1) (n := slots + 6) (by omega) (by omega) ?_
  exact K ce' cr' o H locs ls h' hw (lv_sub hl [0, 1, 2, 3, 4] rfl)
set_option maxHeartbeats 1000000 in
set_option maxRecDepth 100000 in
theorem law_at {p : Program} {l : Launch} {e : Env} {s : State} {m : MethodId} {below : List Frame} {meth : Method} {c : Code} {b L : Nat} {xs : Nat → Int32} {D : va_G} {y : Nat → ClassId} {adE adK adV : Nat → Nat} {tkA swA : Nat} {sa : Nat → Nat} {i cells slots : Nat} {Q : State → Prop} (htr : l.stackTraces = false) (C1 : LCX p s m meth c b L xs D y adE adK adV tkA swA sa) (hi : i + 6 ≤ L) (hL : L ≤ 3072) (hcs : cells + 1 ≤ 601024 ∧ slots + 6 ≤ 7293034) (K : LKK p l e s m below meth c b i D y adE cells slots Q) {ce cr : List va_E} {o : Nat → Int64} {H : Heap} {locs : List Loc} {ls : Array Slot} (h : CRW (adC s.heap.size) adE y (nAt s.heap.size 124) ce cr) (hw : LWo D s.heap.size (y 3) ce cr o s H locs) (hl : lv_has ls 7 [(0, .ref b), (1, .ref (adC s.heap.size 0)), (2, .ref (nAt s.heap.size 124 0)), (3, .ref (nA s.heap.size 143)), (4, .int (nI i))]) : W p l e room_1 s m #[Value.ref b] below meth c H locs cells slots Q (F0 m 804 ls []) := by
  obtain ⟨hx, hb, hml, hown, hts, hX, hbl, hK, hst, hsr⟩ := C1
  have hbA : ¬ oldS s b := Nat.not_le.mpr hbl
  have hc0 : cells ≤ room_1.cells ∧ slots ≤ room_1.slots := ⟨show cells ≤ 601024 by omega, show slots ≤ 7293034 by omega⟩
  refine lv_aload_n hx hb dL_law_804 rfl (lv_at hl 1 rfl) ?_
  refine lv_aload_n hx hb dL_law_805 rfl (lv_at hl 0 rfl) ?_
  refine lv_iload hx hb dL_law_806 (lv_at hl 4 rfl) ?_
  refine lv_iconst (v := 1) hx hb dL_law_808 (by decide) ?_
  refine lv_iadd hx hb dL_law_809 ?_
  refine va_sld hx hb hX hbl hbA hw.2.2.2 (show vp_in (nI i + 1) L from sX_in hi hL 1 (by omega)) dL_law_810 ?_
  obtain ⟨r, ce', cr', k1, k2, h'⟩ := lc_at (l := l) (D := D) (adK := adK) (adV := adV) (tkA := tkA) (swA := swA) h ((sX xs i 1))
  refine L_C (As := [.int (sX xs i 1)]) (rest := []) ⟨hx, hb, hml, hown, hts⟩ k1 (cwV 1 hts gL_law_X11_at rfl rfl rfl (by decide +kernel) ⟨Nat.le_of_ble_eq_true rfl, Nat.le_of_ble_eq_true rfl⟩) STC_ok hst.1.1 hK (CRW_c h) hw rfl hl.1 rfl (Nat.le_of_ble_eq_true rfl) dL_law_811 hc0 (fun H locs hw => ?_)
  refine lv_aload_n hx hb dL_law_814 rfl (lv_at hl 2 rfl) ?_
  refine lv_aload_n hx hb dL_law_815 rfl (lv_at hl 0 rfl) ?_
  refine lv_iload hx hb dL_law_816 (lv_at hl 4 rfl) ?_
  refine lv_iconst (v := 1) hx hb dL_law_818 (by decide) ?_
  refine lv_iadd hx hb dL_law_819 ?_
  refine va_sld hx hb hX hbl hbA hw.2.2.2 (show vp_in (nI i + 1) L from sX_in hi hL 1 (by omega)) dL_law_820 ?_
  refine L_R (As := [.int (sX xs i 1)]) (rest := [.int r]) ⟨hx, hb, hml, hown, hts⟩ k2 (cwV 1 hts gL_law_X12_at rfl rfl rfl (by decide +kernel) ⟨Nat.le_of_ble_eq_true rfl, Nat.le_of_ble_eq_true rfl⟩) STR_ok hsr hK (CRW_c h').1 (CRW_c h).2.2.1 (CRW_c h).2.2.2 hw rfl hl.1 rfl (Nat.le_of_ble_eq_true rfl) dL_law_821 hc0 (fun H locs hw => ?_)
  refine lv_icmp_eq (tgt := 910) hx hb dL_law_824 (by decide) (fun _ => ?_) (fun c1 => absurd rfl c1)
  refine W.widen (k := cells + 1) (n := slots + 6) (by omega) (by omega) ?_
  exact K ce' cr' o H locs ls h' hw (lv_sub hl [0, 1, 2, 3, 4] rfl)
set_option maxHeartbeats 1000000 in
set_option maxRecDepth 100000 in
theorem law_count {p : Program} {l : Launch} {e : Env} {s : State} {m : MethodId} {below : List Frame} {meth : Method} {c : Code} {b L : Nat} {xs : Nat → Int32} {D : va_G} {y : Nat → ClassId} {adE adK adV : Nat → Nat} {tkA swA : Nat} {sa : Nat → Nat} {i cells slots : Nat} {Q : State → Prop} (htr : l.stackTraces = false) (C1 : LCX p s m meth c b L xs D y adE adK adV tkA swA sa) (hi : i + 6 ≤ L) (hL : L ≤ 3072) (hcs : cells + 1 ≤ 601024 ∧ slots + 6 ≤ 7293034) (K : LKK p l e s m below meth c b i D y adE cells slots Q) {ce cr : List va_E} {o : Nat → Int64} {H : Heap} {locs : List Loc} {ls : Array Slot} (h : CRW (adC s.heap.size) adE y (nAt s.heap.size 124) ce cr) (hw : LWo D s.heap.size (y 3) ce cr o s H locs) (hl : lv_has ls 7 [(0, .ref b), (1, .ref (adC s.heap.size 0)), (2, .ref (nAt s.heap.size 124 0)), (3, .ref (nA s.heap.size 143)), (4, .int (nI i))]) : W p l e room_1 s m #[Value.ref b] below meth c H locs cells slots Q (F0 m 885 ls []) := by
  obtain ⟨hx, hb, hml, hown, hts, hX, hbl, hK, hst, hsr⟩ := C1
  have hbA : ¬ oldS s b := Nat.not_le.mpr hbl
  have hc0 : cells ≤ room_1.cells ∧ slots ≤ room_1.slots := ⟨show cells ≤ 601024 by omega, show slots ≤ 7293034 by omega⟩
  refine lv_aload_n hx hb dL_law_885 rfl (lv_at hl 1 rfl) ?_
  refine lv_aload_n hx hb dL_law_886 rfl (lv_at hl 0 rfl) ?_
  refine lv_iload hx hb dL_law_887 (lv_at hl 4 rfl) ?_
  refine lv_iconst (v := 1) hx hb dL_law_889 (by decide) ?_
  refine lv_iadd hx hb dL_law_890 ?_
  refine va_sld hx hb hX hbl hbA hw.2.2.2 (show vp_in (nI i + 1) L from sX_in hi hL 1 (by omega)) dL_law_891 ?_
  obtain ⟨r, ce', cr', k1, k2, h'⟩ := lc_count (l := l) (D := D) (adK := adK) (adV := adV) (tkA := tkA) (swA := swA) h ((sX xs i 1))
  refine L_C (As := [.int (sX xs i 1)]) (rest := []) ⟨hx, hb, hml, hown, hts⟩ k1 (cwV 1 hts gL_law_X11_count rfl rfl rfl (by decide +kernel) ⟨Nat.le_of_ble_eq_true rfl, Nat.le_of_ble_eq_true rfl⟩) STC_ok hst.1.1 hK (CRW_c h) hw rfl hl.1 rfl (Nat.le_of_ble_eq_true rfl) dL_law_892 hc0 (fun H locs hw => ?_)
  refine lv_aload_n hx hb dL_law_895 rfl (lv_at hl 2 rfl) ?_
  refine lv_aload_n hx hb dL_law_896 rfl (lv_at hl 0 rfl) ?_
  refine lv_iload hx hb dL_law_897 (lv_at hl 4 rfl) ?_
  refine lv_iconst (v := 1) hx hb dL_law_899 (by decide) ?_
  refine lv_iadd hx hb dL_law_900 ?_
  refine va_sld hx hb hX hbl hbA hw.2.2.2 (show vp_in (nI i + 1) L from sX_in hi hL 1 (by omega)) dL_law_901 ?_
  refine L_R (As := [.int (sX xs i 1)]) (rest := [.int r]) ⟨hx, hb, hml, hown, hts⟩ k2 (cwV 1 hts gL_law_X12_count rfl rfl rfl (by decide +kernel) ⟨Nat.le_of_ble_eq_true rfl, Nat.le_of_ble_eq_true rfl⟩) STR_ok hsr hK (CRW_c h').1 (CRW_c h).2.2.1 (CRW_c h).2.2.2 hw rfl hl.1 rfl (Nat.le_of_ble_eq_true rfl) dL_law_902 hc0 (fun H locs hw => ?_)
  refine lv_icmp_eq (tgt := 910) hx hb dL_law_905 (by decide) (fun _ => ?_) (fun c1 => absurd rfl c1)
  refine W.widen (k := cells + 1) (n := slots + 6) (by omega) (by omega) ?_
  exact K ce' cr' o H locs ls h' hw (lv_sub hl [0, 1, 2, 3, 4] rfl)
