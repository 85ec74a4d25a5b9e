/-! the law's end and what holds at its entry (the skeleton's rows) -/
def R_law : String := "CaseOrderLaw"
def lw_P (b : Addr) (xs : List Int32) (args : Array Value) (s : State) : Prop := args = #[.ref b] ∧ s.IntsAt b xs ∧ xs.length ≤ 3072 ∧ (Jvm.Cond.and given_1 narrow_1).before args s = true
def lw_Q (_ : Array Value) (s : State) (o : Outcome) (t : State) : Prop := o = .returned (some (.int 1)) ∧ Framed s o t [] 601024 7293034
def lw_Z (below : List Frame) (a : Array Value) (s : State) : State → Prop := fun t => ∃ o, t.status = .running ∧ Ended t below o ∧ lw_Q a s o t
/-- the law's own end, with 1 on the stack, nothing written that was there before, its room as the claim has it -/
theorem lw_ret {p : Program} {l : Launch} {e : Env} {s : State} {m : MethodId} {below : List Frame} {meth : Method} {c : Code} {b : Nat} (hx : p.tables.exec = Jvm.exec) (hb : c.code = code) (hr : meth.sig.returnType = ret) (hlocks : meth.locks = false) {pc : Nat} {H : Heap} {ls : Array Slot} (hdg : decode code pc = .ok (.ireturn, 1)) : W p l e room_1 s m #[Value.ref b] below meth c H [] 601024 7293034 (lw_Z below #[Value.ref b] s) (F0 m pc ls [.int 1]) := by
  intro T hT X
  obtain ⟨fs, hret, hrun, hended, hW, hframe⟩ := X.leave (v := some (.int 1)) (hlocks := hlocks) (fun h => by rw [hr] at h; cases h)
  have hmeth' : T.vm.method? m = some meth := X.method'
  refine ⟨T.setFrames fs, ?_, .returned (some (.int 1)), hrun, hended, rfl, ⟨_, rfl⟩, hW, hframe⟩
  jvm_step X.here [X.here.top, hx, hb, hdg, hmeth', hr, ret, narrow_b1]
  (try refine ⟨rfl, ?_⟩); (try refine ⟨rfl, ?_⟩)
  first | (intro acts; rw [hret _ acts rfl rfl rfl]) | rw [hret _ _ rfl rfl rfl]
  exact Steps.refl _
/-- what holds at the law's entry: the machine, the code, the tables' words (any of lw_tbl by 'hts w (by decide +kernel)'), the script of L ints xs at the cell b, what the Statement gives of the start (any of its parts by flat_of_before) -/
def lw_At (p : Program) (s : State) (m : MethodId) (meth : Method) (c : Code) (b L : Nat) (xs : Nat → Int32) : Prop :=
  p.tables.exec = Jvm.exec ∧ c.code = code ∧ meth.sig.returnType = ret ∧ c.maxLocals = 7 ∧ s.vm.findClass R_law = some m.cls ∧ (∀ w ∈ lw_tbl, w.before #[Value.ref b] s = true) ∧ va_X b L xs s s.heap ∧ b < s.heap.size ∧ meth.locks = false ∧ (Jvm.Cond.and given_1 narrow_1).before #[Value.ref b] s = true
theorem law_le {i L : Nat} (hL : L ≤ 3072) (hi : i ≤ L) (h : ¬ Int32.ofNat L - 6 < nI i) : i + 6 ≤ L := by
  have h1 : (Int32.ofNat L - 6).toInt = (L : Int) - 6 := by
    rw [Int32.toInt_sub]
    have e1 : (Int32.ofNat L).toInt = (L : Int) := Int32.toInt_ofNat_of_lt (by omega)
    have e2 : (6 : Int32).toInt = 6 := rfl
    rw [e1, e2]
    exact Int.bmod_eq_of_le (by omega) (by omega)
  have h2 : (nI i).toInt = (i : Int) := Int32.toInt_ofNat_of_lt (by omega)
  rw [Int32.lt_iff_toInt_lt, h1, h2] at h
  omega
theorem law_out {x : Int32} (e0 : ¬ x = 0) (e1 : ¬ x = 1) (e2 : ¬ x = 2) (e3 : ¬ x = 3) (e4 : ¬ x = 4) (e5 : ¬ x = 5) (e6 : ¬ x = 6) (e7 : ¬ x = 7) (e8 : ¬ x = 8) (e9 : ¬ x = 9) (e10 : ¬ x = 10) (e11 : ¬ x = 11) (e12 : ¬ x = 12) (e13 : ¬ x = 13) (e14 : ¬ x = 14) (e15 : ¬ x = 15) (e16 : ¬ x = 16) (e17 : ¬ x = 17) (e18 : ¬ x = 18) (e19 : ¬ x = 19) : x.toInt < 0 ∨ 19 < x.toInt := by
  by_cases hlo : x.toInt < 0
  · exact Or.inl hlo
  · refine Or.inr (Int.not_le.mp (fun hhi => ?_))
    have key : ∀ k : Int32, ¬ x = k → x.toInt ≠ k.toInt := fun k hk e => hk (Int32.toInt_inj.mp e)
    have f0 : x.toInt ≠ 0 := key 0 e0
    have f1 : x.toInt ≠ 1 := key 1 e1
    have f2 : x.toInt ≠ 2 := key 2 e2
    have f3 : x.toInt ≠ 3 := key 3 e3
    have f4 : x.toInt ≠ 4 := key 4 e4
    have f5 : x.toInt ≠ 5 := key 5 e5
    have f6 : x.toInt ≠ 6 := key 6 e6
    have f7 : x.toInt ≠ 7 := key 7 e7
    have f8 : x.toInt ≠ 8 := key 8 e8
    have f9 : x.toInt ≠ 9 := key 9 e9
    have f10 : x.toInt ≠ 10 := key 10 e10
    have f11 : x.toInt ≠ 11 := key 11 e11
    have f12 : x.toInt ≠ 12 := key 12 e12
    have f13 : x.toInt ≠ 13 := key 13 e13
    have f14 : x.toInt ≠ 14 := key 14 e14
    have f15 : x.toInt ≠ 15 := key 15 e15
    have f16 : x.toInt ≠ 16 := key 16 e16
    have f17 : x.toInt ≠ 17 := key 17 e17
    have f18 : x.toInt ≠ 18 := key 18 e18
    have f19 : x.toInt ≠ 19 := key 19 e19
    omega
/-! the law's loop -/
set_option maxHeartbeats 1000000 in
set_option maxRecDepth 100000 in
theorem law_loop {p : Program} {l : Launch} {e : Env} {s : State} {m : MethodId} {below : List Frame} {meth : Method} {c : Code} {b L : Nat} {xs : Nat → Int32} {D : va_G} {y : Nat → ClassId} {adE adK adV : Nat → Nat} {tkA swA : Nat} {sa : Nat → Nat} (htr : l.stackTraces = false) (C1 : LCX p s m meth c b L xs D y adE adK adV tkA swA sa) (hL : L ≤ 3072) (hr : meth.sig.returnType = ret) (hlocks : meth.locks = false) :
    ∀ (n i : Nat), i ≤ L → L + 1 ≤ i + n → ∀ (ce cr : List va_E) (o : Nat → Int64) (H : Heap) (locs : List Loc) (ls : Array Slot), CRW (adC s.heap.size) adE y (nAt s.heap.size 124) ce cr → LWo D s.heap.size (y 3) ce cr o s H locs → lv_has ls 7 [(0, .ref b), (1, .ref (adC s.heap.size 0)), (2, .ref (nAt s.heap.size 124 0)), (3, .ref (nA s.heap.size 143)), (4, .int (nI i))] → W p l e room_1 s m #[Value.ref b] below meth c H locs (144 + i) (8000 + i) (lw_Z below #[Value.ref b] s) (F0 m 23 ls []) := by
  obtain ⟨hx, hb, hml, hown, hts, hX, hbl, hK, hst, hsr⟩ := id C1
  have hbA : ¬ oldS s b := Nat.not_le.mpr hbl
  intro n
  induction n with
  | zero =>
    intro i h1 h2
    exact absurd h2 (by omega)
  | succ n ih =>
    intro i hi1 hi2 ce cr o H locs ls h hw hl
    refine lv_iload hx hb dL_law_23 (lv_at hl 4 rfl) ?_
    refine lv_aload_n hx hb dL_law_25 rfl (lv_at hl 0 rfl) ?_
    refine va_slen hx hb hX hbl hbA hw.2.2.2 dL_law_26 ?_
    refine lv_bipush (v := 6) hx hb dL_law_27 (by decide) ?_
    refine lv_isub hx hb dL_law_29 ?_
    refine lv_icmp_gt (tgt := 916) hx hb dL_law_30 (by decide) (fun c0 => ?_) (fun c0 => ?_)
    · refine lv_iconst (v := 1) hx hb dL_law_916 (by decide) ?_
      refine va_forget (fun q hq => hw.2.2.2.2.2 q hq) ?_
      refine W.widen (k := 601024) (n := 7293034) (by omega) (by omega) ?_
      exact lw_ret hx hb hr hlocks dL_law_917
    · have hi : i + 6 ≤ L := law_le hL hi1 c0
      have K : LKK p l e s m below meth c b i D y adE (144 + i) (8000 + i) (lw_Z below #[Value.ref b] s) := by
        intro ce cr o H locs ls h hw hl
        refine lv_iinc (v := nI (i + 6)) (lv' := [(4, .int (nI (i + 6))), (0, .ref b), (1, .ref (adC s.heap.size 0)), (2, .ref (nAt s.heap.size 124 0)), (3, .ref (nA s.heap.size 143))]) hx hb dL_law_910 hl (k := 4) rfl (nI_add i 6) (by decide) rfl (fun ls hl => ?_)
        refine lv_goto (tgt := 23) hx hb dL_law_913 (by decide) ?_
        refine W.widen (k := 144 + (i + 6)) (n := 8000 + (i + 6)) (by omega) (by omega) ?_
        exact ih (i + 6) hi (by omega) ce cr o H locs ls h hw (lv_sub hl [1, 2, 3, 4, 0] rfl)
      have hcs : 144 + i + 1 ≤ 601024 ∧ 8000 + i + 6 ≤ 7293034 := ⟨by omega, by omega⟩
      refine lv_aload_n hx hb dL_law_33 rfl (lv_at hl 0 rfl) ?_
      refine lv_iload hx hb dL_law_34 (lv_at hl 4 rfl) ?_
      refine va_sld hx hb hX hbl hbA hw.2.2.2 (show vp_in (nI i) L from vp_in_nI (by omega) (by omega)) dL_law_36 ?_
      refine lv_bipush (v := 31) hx hb dL_law_37 (by decide) ?_
      refine lv_iand hx hb dL_law_39 ?_
      generalize xs (nI i).toNatClampNeg &&& 31 = x
      by_cases e0 : x = 0
      · refine lv_tableIn (tgt := 136) hx hb dL_law_40 (by rw [e0]; decide) (by rw [e0]; decide) (by rw [e0]; rfl) (by decide) ?_
        exact law_feed htr C1 hi hL hcs K h hw hl
      by_cases e1 : x = 1
      · refine lv_tableIn (tgt := 209) hx hb dL_law_40 (by rw [e1]; decide) (by rw [e1]; decide) (by rw [e1]; rfl) (by decide) ?_
        exact law_end htr C1 hi hL hcs K h hw hl
      by_cases e2 : x = 2
      · refine lv_tableIn (tgt := 234) hx hb dL_law_40 (by rw [e2]; decide) (by rw [e2]; decide) (by rw [e2]; rfl) (by decide) ?_
        exact law_tell htr C1 hi hL hcs K h hw hl
      by_cases e3 : x = 3
      · refine lv_tableIn (tgt := 290) hx hb dL_law_40 (by rw [e3]; decide) (by rw [e3]; decide) (by rw [e3]; rfl) (by decide) ?_
        exact law_fault htr C1 hi hL hcs K h hw hl
      by_cases e4 : x = 4
      · refine lv_tableIn (tgt := 303) hx hb dL_law_40 (by rw [e4]; decide) (by rw [e4]; decide) (by rw [e4]; rfl) (by decide) ?_
        exact law_hear htr C1 hi hL hcs K h hw hl
      by_cases e5 : x = 5
      · refine lv_tableIn (tgt := 328) hx hb dL_law_40 (by rw [e5]; decide) (by rw [e5]; decide) (by rw [e5]; rfl) (by decide) ?_
        exact law_saying htr C1 hi hL hcs K h hw hl
      by_cases e6 : x = 6
      · refine lv_tableIn (tgt := 408) hx hb dL_law_40 (by rw [e6]; decide) (by rw [e6]; decide) (by rw [e6]; rfl) (by decide) ?_
        exact law_happening htr C1 hi hL hcs K h hw hl
      by_cases e7 : x = 7
      · refine lv_tableIn (tgt := 421) hx hb dL_law_40 (by rw [e7]; decide) (by rw [e7]; decide) (by rw [e7]; rfl) (by decide) ?_
        exact law_name htr C1 hi hL hcs K h hw hl
      by_cases e8 : x = 8
      · refine lv_tableIn (tgt := 446) hx hb dL_law_40 (by rw [e8]; decide) (by rw [e8]; decide) (by rw [e8]; rfl) (by decide) ?_
        exact law_octet htr C1 hi hL hcs K h hw hl
      by_cases e9 : x = 9
      · refine lv_tableIn (tgt := 502) hx hb dL_law_40 (by rw [e9]; decide) (by rw [e9]; decide) (by rw [e9]; rfl) (by decide) ?_
        exact law_agree htr C1 hi hL hcs K h hw hl
      by_cases e10 : x = 10
      · refine lv_tableIn (tgt := 515) hx hb dL_law_40 (by rw [e10]; decide) (by rw [e10]; decide) (by rw [e10]; rfl) (by decide) ?_
        exact law_bound htr C1 hi hL hcs K h hw hl
      by_cases e11 : x = 11
      · refine lv_tableIn (tgt := 552) hx hb dL_law_40 (by rw [e11]; decide) (by rw [e11]; decide) (by rw [e11]; rfl) (by decide) ?_
        exact law_between htr C1 hi hL hcs K h hw hl
      by_cases e12 : x = 12
      · refine lv_tableIn (tgt := 648) hx hb dL_law_40 (by rw [e12]; decide) (by rw [e12]; decide) (by rw [e12]; rfl) (by decide) ?_
        exact law_order htr C1 hi hL hcs K h hw hl
      by_cases e13 : x = 13
      · refine lv_tableIn (tgt := 685) hx hb dL_law_40 (by rw [e13]; decide) (by rw [e13]; decide) (by rw [e13]; rfl) (by decide) ?_
        exact law_quarrel htr C1 hi hL hcs K h hw hl
      by_cases e14 : x = 14
      · refine lv_tableIn (tgt := 698) hx hb dL_law_40 (by rw [e14]; decide) (by rw [e14]; decide) (by rw [e14]; rfl) (by decide) ?_
        exact law_quarrelled htr C1 hi hL hcs K h hw hl
      by_cases e15 : x = 15
      · refine lv_tableIn (tgt := 723) hx hb dL_law_40 (by rw [e15]; decide) (by rw [e15]; decide) (by rw [e15]; rfl) (by decide) ?_
        exact law_leave htr C1 hi hL hcs K h hw hl
      by_cases e16 : x = 16
      · refine lv_tableIn (tgt := 736) hx hb dL_law_40 (by rw [e16]; decide) (by rw [e16]; decide) (by rw [e16]; rfl) (by decide) ?_
        exact law_needless htr C1 hi hL hcs K h hw hl
      by_cases e17 : x = 17
      · refine lv_tableIn (tgt := 804) hx hb dL_law_40 (by rw [e17]; decide) (by rw [e17]; decide) (by rw [e17]; rfl) (by decide) ?_
        exact law_at htr C1 hi hL hcs K h hw hl
      by_cases e18 : x = 18
      · refine lv_tableIn (tgt := 829) hx hb dL_law_40 (by rw [e18]; decide) (by rw [e18]; decide) (by rw [e18]; rfl) (by decide) ?_
        exact law_sayings htr C1 hi hL hcs K h hw hl
      by_cases e19 : x = 19
      · refine lv_tableIn (tgt := 885) hx hb dL_law_40 (by rw [e19]; decide) (by rw [e19]; decide) (by rw [e19]; rfl) (by decide) ?_
        exact law_count htr C1 hi hL hcs K h hw hl
      refine lv_tableOut (tgt := 910) hx hb dL_law_40 (law_out e0 e1 e2 e3 e4 e5 e6 e7 e8 e9 e10 e11 e12 e13 e14 e15 e16 e17 e18 e19) (by decide) ?_
      refine W.widen (k := 144 + i + 1) (n := 8000 + i + 6) (by omega) (by omega) ?_
      exact K ce cr o H locs ls h hw hl
