/-! methods that may throw -/
def thN : List String := ["java/lang/RuntimeException", "java/lang/Exception"]
def exI : String := "java/lang/IndexOutOfBoundsException"
def exS : String := "java/util/NoSuchElementException"
def nwX : List Cond := [.declares (Bundle.initS "java/lang/RuntimeException"), .declares (Bundle.initS "java/lang/Exception"), .declares (Bundle.initS Bundle.tN), .castable exI exI, .castable exS exS]
def msI (k : Nat) : Nat := ([69, 98, 131, 153, 177, 179] : List Nat).getD k 0
def msT (k : Nat) : String := (["there is no such teller", "there is no such saying", "a saying has no such part", "there is no such byte", "there is no such happening", "those heard do not agree"] : List String).getD k ""
def STX (ad adE adK adV : Nat → Nat) (tkA swA : Nat) (sa : Nat → Nat) (U : State) (H : Heap) : Prop :=
  STC ad adE adK adV tkA swA U H ∧ (∀ w ∈ nwX, va_Nw w U) ∧ (∀ k, k < 6 → vk_R RX11 (msI k) (msT k) (sa k) U) ∧ vx_Zq Bundle.tN "UNASSIGNED_STACK" Bundle.steD (inW ad 124) U H ∧ vx_Zq Bundle.tN "SUPPRESSED_SENTINEL" Bundle.listD (inW ad 124) U H
theorem nwX_warm {s U : State} (hW : s.WarmedH U.vm) (h : ∀ w ∈ nwX, va_Nw w s) : ∀ w ∈ nwX, va_Nw w U := by
  intro w hw
  have h1 := h w hw
  simp only [nwX, List.mem_cons, List.not_mem_nil, or_false] at hw
  rcases hw with rfl | rfl | rfl | rfl | rfl
  · exact va_Nw.warmD hW h1
  · exact va_Nw.warmD hW h1
  · exact va_Nw.warmD hW h1
  · exact va_Nw.warmC hW h1
  · exact va_Nw.warmC hW h1
theorem STX_ok {ad adE adK adV : Nat → Nat} {tkA swA : Nat} {sa : Nat → Nat} : STok ad 124 (STX ad adE adK adV tkA swA sa) :=
  ⟨fun u U H hW h => ⟨STC_ok.1 u U H hW h.1, nwX_warm hW h.2.1, fun k hk => vk_R.warm hW (h.2.2.1 k hk), vx_Zq.moved hW.alike h.2.2.2.1, vx_Zq.moved hW.alike h.2.2.2.2⟩,
   fun U H H1 hk h => ⟨STC_ok.2 U H H1 hk h.1, h.2.1, h.2.2.1, h.2.2.2.1.kept hk, h.2.2.2.2.kept hk⟩⟩
theorem vx_Zqup {C n d : String} {ad : Nat → Nat} {N : Nat} {s : State} (h : vx_Zq C n d (inW ad N) s s.heap) : vx_Zq C n d (Aw ad N s.heap.size) s s.heap := by
  refine ⟨?_, ?_⟩
  · rcases h.1 with h | ⟨t, h⟩
    · exact Or.inl (va_Zup h)
    · exact Or.inr ⟨t, va_Zup h⟩
  · obtain ⟨c, k, i, f, a, cell, e1, e2, e3, e4, e5, e6, e7, e8, e9, e10⟩ := h.2
    exact ⟨c, k, i, f, a, cell, e1, e2, e3, e4, e5, e6, e7, e8, e9, fun z => z.elim e10 (fun q => absurd (Array.getElem?_eq_some_iff.mp e5).1 (Nat.not_lt.mpr q))⟩
/-- what is left behind: an answer and a world, or a throw and a world -/
abbrev ResX : Type := (Int32 × List va_E) ⊕ (String × List va_E)
def QcX (D : va_G) (ad : Nat → Nat) (n sz : Nat) (res : ResX) : Array Value → State → Outcome → State → Prop := match res with
  | .inl r => va_Qi (fun x (_ : Unit) => x = r.1) (fun _ t => va_P D vwCl (wls ad r.2) t.heap) (Aw ad n sz)
  | .inr _ => fun _ _ _ _ => False
def XcX (D : va_G) (ad : Nat → Nat) (n sz : Nat) (res : ResX) : String → State → State → Prop := match res with
  | .inl _ => fun _ _ _ => False
  | .inr r => vx_X (fun (_ : Unit) => True) (fun E _ t => E = r.1 ∧ va_P D vwCl (wls ad r.2) t.heap) (Aw ad n sz)
def CTX (l : Launch) (y : MethodName) (ws : List Cond) (rm : Room) (D : va_G) (ad : Nat → Nat) (n : Nat) (tys : List (ClassId × FieldType)) (ST : State → Heap → Prop) (ce : List va_E) (av : List Value) (res : ResX) : Prop :=
  ∀ sz, vx_Met l y ws rm (Cpre D ad tys ST ce sz av) (QcX D ad n sz res) (XcX D ad n sz res) 1 6 (Aw ad n sz)
section GT
variable {p : Program} {l : Launch} {e : Env} {R : Room} {s : State} {m : MethodId} {args : Array Value} {below : List Frame} {meth : Method} {c : Code} {H : Heap} {locs : List Loc}
variable {cc : ByteArray} {pc : Nat} {ls : Array Slot} {rest : List Value} {D : va_G} {ad adE adK adV sa : Nat → Nat} {tkA swA : Nat} {ce : List va_E} {n : Nat}
theorem wls_lt (hP : va_P D vwCl (wls ad ce) H) {H1 : Heap} (hk : ∀ q : Nat, q < H.size → H1[q]? = H[q]?) : va_P D vwCl (wls ad ce) H1 := hP.kept (fun k q hq => hk q.1 (vx_lt hP hq))
theorem g_retX {r : Int32} (hexec : p.tables.exec = Jvm.exec) (hb : c.code = cc) (hr : meth.sig.returnType = some .int) (hlocks : meth.locks = false) (hw : Wo D ad (Aw ad n s.heap.size) ce s.heap H locs) (hdg : decode cc pc = .ok (.ireturn, 1)) {st : List Value} (hst : st = [.int r]) :
    W p l e R s m args below meth c H locs 0 0 (vx_MQ below (QcX D ad n s.heap.size (.inl (r, ce))) (XcX D ad n s.heap.size (.inl (r, ce))) args s 1 6 (Aw ad n s.heap.size)) (F0 m pc ls st) := by
  subst hst
  exact W.widen (Nat.zero_le 1) (Nat.zero_le 6) (vx_ret (W.iret (v := r) hexec hb hr (fun t ht _ => g_end hw t ht) hw.2.2.2.2 hdg hlocks))
theorem g_thr {ws : List Cond} {ik ic : Nat} {E : String} (k : Nat) (hk6 : k < 6) (hexec : p.tables.exec = Jvm.exec) (hb : c.code = cc) (hl : l.stackTraces = false) (hown : s.vm.findClass RX11 = some m.cls) (hlocks : meth.locks = false) (hno : ∀ x ∈ c.exceptionTable.toList, False) (hts : ∀ w ∈ ws, w.before args s = true)
    (hE : (E = exI ∧ ik = 67 ∧ ic = 71) ∨ False) (h1 : Cond.classLink RX11 ik E ∈ ws) (h2 : Cond.initialized E ∈ ws) (h3 : ∀ w ∈ (vx_atS RX11 ic E thN).filter goodWord, w ∈ ws)
    (hst : STX ad adE adK adV tkA swA sa s s.heap) (hw : Wo D ad (Aw ad 124 s.heap.size) ce s.heap H locs) (hsize : ls.size = c.maxLocals)
    (d0 : decode cc pc = .ok (.new ik, 3)) (d3 : decode cc (pc + 3) = .ok (.dup, 1)) (d4 : decode cc (pc + 4) = .ok (.ldc (msI k), 2)) (d6 : decode cc (pc + 6) = .ok (.invokespecial ic, 3)) (d9 : decode cc (pc + 9) = .ok (.athrow, 1))
    (hR : 5 < R.frames ∧ 82 ≤ R.locals ∧ 1 ≤ R.cells ∧ 6 ≤ R.slots) {Qc : Array Value → State → Outcome → State → Prop} :
    W p l e R s m args below meth c H locs 0 0 (vx_MQ below Qc (XcX D ad 124 s.heap.size (.inr (E, ce))) args s 1 6 (Aw ad 124 s.heap.size)) (F0 m pc ls []) := by
  have hfE : Bundle.fit E = true := by rcases hE with ⟨rfl, -, -⟩ | z; decide +kernel; exact z.elim
  have hB : ∀ w ∈ (vx_atS RX11 ic E thN).filter (fun w => !goodWord w), w ∈ nwX := by
    rcases hE with ⟨rfl, -, rfl⟩ | z
    · have : ((vx_atS RX11 71 exI thN).filter (fun w => !goodWord w)).all (fun w => decide (w ∈ nwX)) = true := by decide +kernel
      exact fun w hw => of_decide_eq_true (List.all_eq_true.mp this w hw)
    · exact z.elim
  have hnot : ∀ w ∈ nwX, w.onTables = true := by
    have : nwX.all (fun w => w.onTables) = true := by decide +kernel
    exact fun w hw => List.all_eq_true.mp this w hw
  have hgood : ∀ w ∈ Cond.classLink RX11 ik E :: Cond.initialized E :: vx_atS RX11 ic E thN, vx_ot w = true := by
    rcases hE with ⟨rfl, rfl, rfl⟩ | z
    · have : (Cond.classLink RX11 67 exI :: Cond.initialized exI :: vx_atS RX11 71 exI thN).all vx_ot = true := by decide +kernel
      exact fun w hw => List.all_eq_true.mp this w hw
    · exact z.elim
  refine vx_throwS (own := RX11) (cls := E) (text := msT k) (names := thN) (sa := sa k) (A := Aw ad 124 s.heap.size) hexec hb hl hown hfE (by decide +kernel) (hts _ h1) (hts _ h2) (hst.2.2.1 k hk6)
    (vx_hat (fun w hw => hts w (h3 w hw)) hB (fun w hw => va_Nw.use (hnot w hw) (hst.2.1 w hw))) hgood (vx_Zqup hst.2.2.2.1) (vx_Zqup hst.2.2.2.2) hw.2.2 hsize d0 d3 d4 d6 d9 (fun x hx => (hno x hx).elim)
    (show 2 + 3 < R.frames from hR.1) (show 0 + 82 ≤ R.locals by omega) (by omega) (by omega) hlocks (fun t hA hz hq => ⟨(), trivial, ⟨rfl, wls_lt hw.1 hq⟩, ?_⟩) hw.2.2.2.2 (by omega) (by omega)
  exact ⟨Nat.le_trans hw.2.2.1 hz, fun q q1 q2 => by rw [hq q (Nat.lt_of_lt_of_le q1 hw.2.2.1)]; exact hw.2.2.2.1 q q1 q2⟩
theorem rx_0 : decode prog_25_method_4_code 0 = .ok (.aload_n 0, 1) := by decide +kernel
theorem rx_1 : decode prog_25_method_4_code 1 = .ok (.aload_n 1, 1) := by decide +kernel
theorem rx_2 : decode prog_25_method_4_code 2 = .ok (.invokespecial 13, 3) := by decide +kernel
theorem rx_5 : decode prog_25_method_4_code 5 = .ok (.return_, 1) := by decide +kernel
theorem g_thrN {ws : List Cond} (k : Nat) (hk6 : k < 6) (hexec : p.tables.exec = Jvm.exec) (hb : c.code = cc) (hl : l.stackTraces = false) (hown : s.vm.findClass RX11 = some m.cls) (hlocks : meth.locks = false) (hno : ∀ x ∈ c.exceptionTable.toList, False) (hts : ∀ w ∈ ws, w.before args s = true)
    (h1 : Cond.classLink RX11 96 exS ∈ ws) (h2 : Cond.initialized exS ∈ ws) (h3 : ∀ w ∈ (vx_atX RX11 100 exS 13 prog_25_method_4_code thN).filter goodWord, w ∈ ws)
    (hst : STX ad adE adK adV tkA swA sa s s.heap) (hw : Wo D ad (Aw ad 124 s.heap.size) ce s.heap H locs) (hsize : ls.size = c.maxLocals)
    (d0 : decode cc pc = .ok (.new 96, 3)) (d3 : decode cc (pc + 3) = .ok (.dup, 1)) (d4 : decode cc (pc + 4) = .ok (.ldc (msI k), 2)) (d6 : decode cc (pc + 6) = .ok (.invokespecial 100, 3)) (d9 : decode cc (pc + 9) = .ok (.athrow, 1))
    (hR : 5 < R.frames ∧ 82 ≤ R.locals ∧ 1 ≤ R.cells ∧ 6 ≤ R.slots) {Qc : Array Value → State → Outcome → State → Prop} :
    W p l e R s m args below meth c H locs 0 0 (vx_MQ below Qc (XcX D ad 124 s.heap.size (.inr (exS, ce))) args s 1 6 (Aw ad 124 s.heap.size)) (F0 m pc ls []) := by
  have hB : ∀ w ∈ (vx_atX RX11 100 exS 13 prog_25_method_4_code thN).filter (fun w => !goodWord w), w ∈ nwX := by
    have : ((vx_atX RX11 100 exS 13 prog_25_method_4_code thN).filter (fun w => !goodWord w)).all (fun w => decide (w ∈ nwX)) = true := by decide +kernel
    exact fun w hw => of_decide_eq_true (List.all_eq_true.mp this w hw)
  have hnot : ∀ w ∈ nwX, w.onTables = true := by
    have : nwX.all (fun w => w.onTables) = true := by decide +kernel
    exact fun w hw => List.all_eq_true.mp this w hw
  have hgood : ∀ w ∈ Cond.classLink RX11 96 exS :: Cond.initialized exS :: vx_atX RX11 100 exS 13 prog_25_method_4_code thN, vx_ot w = true := by
    have : (Cond.classLink RX11 96 exS :: Cond.initialized exS :: vx_atX RX11 100 exS 13 prog_25_method_4_code thN).all vx_ot = true := by decide +kernel
    exact fun w hw => List.all_eq_true.mp this w hw
  refine vx_throwX (own := RX11) (cls := exS) (text := msT k) (names := thN) (sa := sa k) (A := Aw ad 124 s.heap.size) hexec hb hl rx_0 rx_1 rx_2 rx_5 hown (by decide +kernel) (by decide +kernel) (hts _ h1) (hts _ h2) (hst.2.2.1 k hk6)
    (vx_hat (fun w hw => hts w (h3 w hw)) hB (fun w hw => va_Nw.use (hnot w hw) (hst.2.1 w hw))) hgood (vx_Zqup hst.2.2.2.1) (vx_Zqup hst.2.2.2.2) hw.2.2 hsize d0 d3 d4 d6 d9 (fun x hx => (hno x hx).elim)
    (show 2 + 3 < R.frames from hR.1) (show 0 + 82 ≤ R.locals by omega) (by omega) (by omega) hlocks (fun t hA hz hq => ⟨(), trivial, ⟨rfl, wls_lt hw.1 hq⟩, ?_⟩) hw.2.2.2.2 (by omega) (by omega)
  exact ⟨Nat.le_trans hw.2.2.1 hz, fun q q1 q2 => by rw [hq q (Nat.lt_of_lt_of_le q1 hw.2.2.1)]; exact hw.2.2.2.1 q q1 q2⟩
end GT
