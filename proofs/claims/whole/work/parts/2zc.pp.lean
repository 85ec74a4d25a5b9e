/-! reading, as such: over the tokens; a fault is its kind and its place -/
def fx : List (List Nat) → List Nat → Option Nat
  | [], _ => none
  | a :: r, l => if a = l then some 0 else (fx r l).map (· + 1)
theorem fx_some : ∀ {NL : List (List Nat)} {l : List Nat} {h : Nat}, fx NL l = some h → NL[h]? = some l ∧ ∀ j, j < h → NL[j]? ≠ some l
  | [], l, h, e => by simp [fx] at e
  | a :: r, l, h, e => by
    unfold fx at e
    by_cases ha : a = l
    · rw [if_pos ha] at e
      cases e
      exact ⟨by rw [ha]; rfl, fun j hj => absurd hj (Nat.not_lt_zero j)⟩
    · rw [if_neg ha] at e
      cases h9 : fx r l with
      | none => rw [h9] at e; cases e
      | some k =>
        rw [h9] at e
        cases e
        obtain ⟨h1, h2⟩ := fx_some h9
        refine ⟨h1, fun j hj => ?_⟩
        cases j with
        | zero => intro z; exact ha (Option.some.inj z)
        | succ j => exact h2 j (by have hj : j + 1 < k + 1 := hj; omega)
theorem fx_none : ∀ {NL : List (List Nat)} {l : List Nat}, fx NL l = none → ∀ j : Nat, NL[j]? ≠ some l
  | [], l, _, j => by simp
  | a :: r, l, e, j => by
    unfold fx at e
    by_cases ha : a = l
    · rw [if_pos ha] at e; cases e
    · rw [if_neg ha] at e
      have h9 : fx r l = none := by cases h9 : fx r l with
        | none => rfl
        | some k => rw [h9] at e; cases e
      cases j with
      | zero => intro z; exact ha (Option.some.inj z)
      | succ j => exact fx_none h9 j
theorem fx_of {NL : List (List Nat)} {l : List Nat} {h : Nat} (h1 : NL[h]? = some l) (h2 : ∀ j, j < h → NL[j]? ≠ some l) : fx NL l = some h := by
  cases e : fx NL l with
  | none => exact absurd h1 (fx_none e h)
  | some k =>
    obtain ⟨a1, a2⟩ := fx_some e
    rcases Nat.lt_trichotomy h k with z | z | z
    · exact absurd h1 (a2 h z)
    · rw [z]
    · exact absurd a1 (h2 k z)
theorem fx_no {NL : List (List Nat)} {l : List Nat} (h : ∀ j, j < NL.length → NL[j]? ≠ some l) : fx NL l = none := by
  cases e : fx NL l with
  | none => rfl
  | some k =>
    have a1 := (fx_some e).1
    exact absurd a1 (h k (List.getElem?_eq_some_iff.mp a1).1)
abbrev Ft : Type := Nat × Nat
def pb {α β : Type} (x : Ft ⊕ α) (f : α → Ft ⊕ β) : Ft ⊕ β := match x with
  | .inl e => .inl e
  | .inr a => f a
section PP
variable (B : Nat → Nat) (n : Nat) (L : List (Nat × Nat))
def pNum (i least : Nat) : Ft ⊕ (Nat × Nat) :=
  if tyT B L i = 9 then (if numV (btT B L i) < least then .inl (2, stT n L i) else .inr (numV (btT B L i), i + 1)) else .inl (1, stT n L i)
def pHap (NL : List (List Nat)) (i : Nat) (but : Option Nat) : Ft ⊕ (Nat × List (List Nat) × Nat) :=
  if tyT B L i = 8 then (match fx NL (btT B L i) with
    | some h => if but = some h then .inl (3, stT n L i) else .inr (h, NL, i + 1)
    | none => if NL.length = 20 then .inl (4, stT n L i) else .inr (NL.length, NL ++ [btT B L i], i + 1))
  else .inl (1, stT n L i)
def pSpan (i least : Nat) (must : Bool) : Ft ⊕ (Nat × Option Nat × Nat) :=
  pb (pNum B n L i least) (fun q => if tyT B L q.2 = 7 then pb (pNum B n L (q.2 + 1) q.1) (fun p => .inr (q.1, some p.1, p.2)) else if must = true then .inl (1, stT n L q.2) else .inr (q.1, none, q.2))
def pRest (NL : List (List Nat)) (h i : Nat) : Ft ⊕ (Sy × List (List Nat) × Nat) :=
  if tyT B L i = 1 ∨ tyT B L i = 4 then pb (pSpan B n L (i + 1) 0 (decide (tyT B L i = 1))) (fun q => .inr ((tyT B L i, h, 0, some q.1, q.2.1), NL, q.2.2))
  else if tyT B L i = 0 ∨ tyT B L i = 2 ∨ tyT B L i = 3 then pb (pNum B n L (i + 1) 0) (fun q => .inr ((tyT B L i, h, 0, some q.1, none), NL, q.2))
  else if tyT B L i = 5 ∨ tyT B L i = 6 then pb (pHap B n L NL (i + 1) (some h)) (fun q =>
    if tyT B L i = 5 ∧ tyT B L q.2.2 = 2 then pb (pSpan B n L (q.2.2 + 1) 1 false) (fun p => .inr ((tyT B L i, h, q.1, some p.1, p.2.1), q.2.1, p.2.2))
    else .inr ((tyT B L i, h, q.1, none, none), q.2.1, q.2.2))
  else .inl (1, stT n L i)
def pStop (x : Ft ⊕ (Sy × List (List Nat) × Nat)) : Ft ⊕ (Sy × List (List Nat) × Nat) :=
  pb x (fun q => if tyT B L q.2.2 = 10 then .inr (q.1, q.2.1, q.2.2 + 1) else .inl (1, stT n L q.2.2))
def pText : Nat → List (Sy × Nat) → List (List Nat) → Nat → Ft ⊕ (List (Sy × Nat) × List (List Nat))
  | 0, _, _, _ => .inl (0, 0)
  | f + 1, A, NL, i =>
    if tyT B L i = 11 ∧ n ≤ 400 then .inr (A, NL)
    else if tyT B L i = 8 ∧ A.length = 12 then .inl (4, stT n L i)
    else pb (pHap B n L NL i none) (fun q => pb (pStop B n L (pRest B n L q.2.1 q.1 q.2.2)) (fun p => pText f (A ++ [(p.1, stT n L i)]) p.2.1 p.2.2))
end PP
/-- the names, as such and as the class holds them -/
def nmOk (l : List Nat) : Prop := 1 ≤ l.length ∧ l.length ≤ 8 ∧ l.all ltr = true ∧ kwO l = 8
def nmsOk (NL : List (List Nat)) : Prop := NL.length ≤ 20 ∧ ∀ l ∈ NL, nmOk l
def encN (le nl : Nat → Int32) (NL : List (List Nat)) : Prop := ∀ h l, NL[h]? = some l → nl h = nI l.length ∧ ∀ k c, l[k]? = some c → le (8 * h + k) = nI c
theorem nms_get {NL : List (List Nat)} (h : nmsOk NL) {j : Nat} {l : List Nat} (e : NL[j]? = some l) : nmOk l := h.2 l (List.mem_of_getElem? e)
theorem spl_C {a le nl : Nat → Int32} {B : Nat → Nat} {n s h : Nat} (hn : n ≤ 440) (hB : BY a n B) {NL : List (List Nat)} (hN : nmsOk NL) (hE : encN le nl NL) {l : List Nat} (hl : NL[h]? = some l) (hs : s + l.length ≤ n) :
    f_X3_isSpelled a le nl (nI h) (nI s) = some (ob (decide (bts B s l.length = l))) := by
  obtain ⟨o1, o2, o3, o4⟩ := nms_get hN hl
  obtain ⟨e1, e2⟩ := hE h l hl
  have hh : h < 20 := Nat.lt_of_lt_of_le (List.getElem?_eq_some_iff.mp hl).1 hN.1
  obtain ⟨t, ht, hp⟩ := lp_rule (body := f_X3_isSpelled_l3 a le nl (nI h) (nI s)) (fun sg => ∃ k : Nat, k ≤ l.length ∧ sg = nI k ∧ ∀ j, j < k → l[j]? = some (B (s + j))) (fun sg => l.length - sg.toNatClampNeg) (fun t => Sum.elim (fun _ => bts B s l.length = l) (fun r => r = 0 ∧ bts B s l.length ≠ l) t)
    (by
      intro sg hinv
      obtain ⟨k, hk, rfl, hall⟩ := hinv
      unfold f_X3_isSpelled_l3
      rw [gIn_of (vp_in_nI hh (by omega)), nI_clamp (by omega), e1]
      by_cases hlt : k < l.length
      · rw [if_neg (nI_ge hlt (by omega)), show (8 : Int32) = nI 8 from rfl, pk_mul, nI_add, nI_add, gIn_of (vp_in_nI (show s + k < 440 by omega) (by omega)), gIn_of (vp_in_nI (show h * 8 + k < 160 by omega) (by omega)), nI_clamp (by omega), nI_clamp (by omega)]
        obtain ⟨b1, b2⟩ := hB (s + k) (by omega)
        have hg : l[k]? = some l[k] := List.getElem?_eq_getElem hlt
        have hc : ltr l[k] = true := List.all_eq_true.mp o3 _ (List.getElem_mem hlt)
        have hc2 := ltr_iff.mp hc
        rw [b2, Nat.mul_comm h 8, e2 k _ hg]
        by_cases hq : bI (B (s + k)) = nI l[k]
        · rw [if_pos hq]
          have hq2 := (bI_eq b1 (by omega)).mp hq
          refine Or.inl ⟨_, rfl, ⟨k + 1, hlt, by rw [← nI_1], fun j hj => ?_⟩, by rw [nI_1, nI_clamp (by omega), nI_clamp (by omega)]; omega⟩
          by_cases hjk : j < k
          · exact hall j hjk
          · obtain rfl : j = k := by omega
            rw [hg, hq2]
        · rw [if_neg hq]
          refine Or.inr ⟨_, rfl, rfl, fun e => hq ?_⟩
          have := bts_get (B := B) (s := s) hlt
          rw [e, hg] at this
          rw [Option.some.inj this]
          exact (bI_eq b1 (by rw [← Option.some.inj this]; omega)).mpr rfl
      · obtain rfl : k = l.length := by omega
        rw [if_pos (nI_le (Nat.le_refl _) (by omega))]
        exact Or.inr ⟨_, rfl, bts_ext rfl hall⟩)
    gFU 0 ⟨0, by omega, nI_0.symm, fun j hj => absurd hj (Nat.not_lt_zero j)⟩ (by show l.length - (0 : Int32).toNatClampNeg < 100000; omega)
  unfold f_X3_isSpelled
  rw [ht]; simp only [bs]
  cases t with
  | inl x => rw [decide_eq_true (show bts B s l.length = l from hp)]; rfl
  | inr r =>
    obtain ⟨h1, h2⟩ := hp
    rw [decide_eq_false h2]
    show some r = _
    rw [h1]; rfl
def oH (o : Option Nat) : Int32 := match o with
  | some h => nI h
  | none => -1
theorem find_C {a le nl : Nat → Int32} {B : Nat → Nat} {n s l : Nat} (hn : n ≤ 440) (hB : BY a n B) {NL : List (List Nat)} (hN : nmsOk NL) (hE : encN le nl NL) (hs : s + l ≤ n) :
    f_X3_find a (nI NL.length) le nl (nI s) (nI l) = some (oH (fx NL (bts B s l))) := by
  have hN1 := hN.1
  obtain ⟨t, ht, hp⟩ := lp_rule (body := f_X3_find_l3 a (nI NL.length) le nl (nI s) (nI l)) (fun sg => ∃ h : Nat, h ≤ NL.length ∧ sg = nI h ∧ ∀ j, j < h → NL[j]? ≠ some (bts B s l)) (fun sg => NL.length - sg.toNatClampNeg) (fun t => Sum.elim (fun _ => fx NL (bts B s l) = none) (fun r => oH (fx NL (bts B s l)) = r) t)
    (by
      intro sg hinv
      obtain ⟨h, hh, rfl, hne⟩ := hinv
      unfold f_X3_find_l3
      by_cases hlt : h < NL.length
      · obtain ⟨m, hm⟩ : ∃ m, NL[h]? = some m := ⟨_, List.getElem?_eq_getElem hlt⟩
        obtain ⟨o1, o2, o3, o4⟩ := nms_get hN hm
        obtain ⟨e1, e2⟩ := hE h m hm
        rw [if_neg (nI_ge hlt (by omega)), gIn_of (vp_in_nI (by omega) (by omega)), nI_clamp (by omega), e1]
        have step : m ≠ bts B s l → ∀ j, j < h + 1 → NL[j]? ≠ some (bts B s l) := by
          intro hmn j hj
          by_cases hjh : j < h
          · exact hne j hjh
          · obtain rfl : j = h := by omega
            rw [hm]; intro z; exact hmn (Option.some.inj z)
        have mes : NL.length - (nI h + 1).toNatClampNeg < NL.length - h := by rw [nI_1, nI_clamp (by omega)]; omega
        by_cases hl : nI m.length = nI l
        · have hl2 : m.length = l := (nI_eq (by omega) (by omega)).mp hl
          rw [if_pos hl, spl_C hn hB hN hE hm (by omega)]
          simp only [bs]
          rw [hl2]
          by_cases he : bts B s l = m
          · rw [decide_eq_true he, ob_1, if_neg (show ¬ (1 : Int32) = 0 by decide)]
            refine Or.inr ⟨_, rfl, ?_⟩
            show oH (fx NL (bts B s l)) = nI h
            rw [fx_of (by rw [hm, he]) hne]; rfl
          · rw [decide_eq_false he, ob_0, if_pos rfl]
            exact Or.inl ⟨_, rfl, ⟨h + 1, hlt, by rw [← nI_1], step (fun z => he z.symm)⟩, mes⟩
        · rw [if_neg hl]
          exact Or.inl ⟨_, rfl, ⟨h + 1, hlt, by rw [← nI_1], step (fun z => hl (by rw [z, bts_len]))⟩, mes⟩
      · obtain rfl : h = NL.length := by omega
        rw [if_pos (nI_le (Nat.le_refl _) (by omega))]
        exact Or.inr ⟨_, rfl, fx_no hne⟩)
    gFU 0 ⟨0, by omega, nI_0.symm, fun j hj => absurd hj (Nat.not_lt_zero j)⟩ (by show NL.length - (0 : Int32).toNatClampNeg < 100000; omega)
  unfold f_X3_find
  rw [ht]; simp only [bs]
  cases t with
  | inl x => rw [show fx NL (bts B s l) = none from hp]; rfl
  | inr r => rw [show oH (fx NL (bts B s l)) = r from hp]; rfl
theorem nar_b : ∀ c, c < 128 → vp_nar .byte (nI c) = nI c := by decide +kernel
/-- find or draft -/
theorem draft_C {a le nl : Nat → Int32} {B : Nat → Nat} {n s l : Nat} (hn : n ≤ 440) (hB : BY a n B) {NL : List (List Nat)} (hN : nmsOk NL) (hE : encN le nl NL) (hs : s + l ≤ n) (ho : nmOk (bts B s l)) :
    ∃ q, f_X3_findOrDraft a (nI NL.length) le nl (nI s) (nI l) = some q ∧
      (∀ h, fx NL (bts B s l) = some h → q.1 = nI h ∧ q.2.1 = nI NL.length ∧ encN q.2.2.1 q.2.2.2 NL) ∧
      (fx NL (bts B s l) = none → NL.length = 20 → q.1 = -1 ∧ q.2.1 = nI NL.length ∧ encN q.2.2.1 q.2.2.2 NL) ∧
      (fx NL (bts B s l) = none → NL.length < 20 → q.1 = nI NL.length ∧ q.2.1 = nI (NL.length + 1) ∧ encN q.2.2.1 q.2.2.2 (NL ++ [bts B s l])) := by
  have hN1 := hN.1
  obtain ⟨o1, o2, o3, o4⟩ := ho
  rw [bts_len] at o1 o2
  unfold f_X3_findOrDraft f_X3_findOrDraft_b30
  rw [find_C hn hB hN hE hs]
  simp only [bs]
  cases hf : fx NL (bts B s l) with
  | some h =>
    have hh := (List.getElem?_eq_some_iff.mp (fx_some hf).1).1
    have hne : ¬ oH (some h) = -1 := by
      show ¬ nI h = -1
      intro z
      have := congrArg Int32.toInt z
      rw [nI_toInt (by omega)] at this
      have e : (-1 : Int32).toInt = -1 := by decide
      omega
    rw [if_neg hne]
    refine ⟨_, rfl, fun h' e => ?_, fun e => (by cases e), fun e => (by cases e)⟩
    cases e
    exact ⟨rfl, rfl, hE⟩
  | none =>
    rw [if_pos (show oH none = -1 from rfl)]
    by_cases h20 : NL.length = 20
    · rw [if_pos (show (20 : Int32) ≤ nI NL.length by rw [h20]; decide)]
      exact ⟨_, rfl, fun h' e => (by cases e), fun _ _ => ⟨rfl, rfl, hE⟩, fun _ z => by omega⟩
    · rw [if_neg (show ¬ (20 : Int32) ≤ nI NL.length from nI_ge (a := NL.length) (b := 20) (by omega) (by omega)), if_pos (show nI l ≤ (8 : Int32) from nI_le (a := l) (b := 8) o2 (by omega))]
      obtain ⟨t, ht, hp1, hp2⟩ := lp_rule (body := f_X3_findOrDraft_l36 a (nI NL.length) nl (nI s) (nI l)) (fun sg => ∃ k : Nat, k ≤ l ∧ sg.1 = nI k ∧ (∀ j, j < k → sg.2 (8 * NL.length + j) = nI (B (s + j))) ∧ ∀ j, j < 8 * NL.length → sg.2 j = le j) (fun sg => l - sg.1.toNatClampNeg) (fun t => (∀ j, j < l → t.2 (8 * NL.length + j) = nI (B (s + j))) ∧ ∀ j, j < 8 * NL.length → t.2 j = le j)
        (by
          intro sg hinv
          obtain ⟨k, hk, ek, h1, h2⟩ := hinv
          unfold f_X3_findOrDraft_l36
          rw [ek]
          by_cases hlt : k < l
          · obtain ⟨b1, b2⟩ := hB (s + k) (by omega)
            have hc := ltr_iff.mp (all_iff.mp o3 k hlt)
            have hbn : bI (B (s + k)) = nI (B (s + k)) := by unfold bI; rw [if_pos (by omega)]
            rw [if_neg (nI_ge hlt (by omega)), show (8 : Int32) = nI 8 from rfl, pk_mul, nI_add, nI_add, gIn_of (vp_in_nI (show s + k < 440 by omega) (by omega)), gIn_of (vp_in_nI (show NL.length * 8 + k < 160 by omega) (by omega)), nI_clamp (by omega), nI_clamp (by omega), b2, hbn, nar_b _ (by omega), Nat.mul_comm NL.length 8]
            refine Or.inl ⟨_, rfl, ⟨k + 1, hlt, by rw [← nI_1], fun j hj => ?_, fun j hj => ?_⟩, by rw [nI_1, nI_clamp (by omega), nI_clamp (by omega)]; omega⟩
            · show upd sg.2 (8 * NL.length + k) (nI (B (s + k))) (8 * NL.length + j) = _
              by_cases hjk : j = k
              · subst hjk; rw [upd_s]
              · rw [upd_n (by omega)]; exact h1 j (by omega)
            · show upd sg.2 (8 * NL.length + k) (nI (B (s + k))) j = _
              rw [upd_n (by omega)]; exact h2 j hj
          · obtain rfl : k = l := by omega
            rw [if_pos (nI_le (Nat.le_refl _) (by omega))]
            exact Or.inr ⟨_, rfl, h1, h2⟩)
        gFU (0, le) ⟨0, by omega, nI_0.symm, fun j hj => absurd hj (Nat.not_lt_zero j), fun _ _ => rfl⟩ (by show l - (0 : Int32).toNatClampNeg < 100000; omega)
      rw [ht]; simp only [bs]
      rw [gIn_of (vp_in_nI (show NL.length < 20 by omega) (by omega)), nI_clamp (by omega), nI_1, nI_pred]
      refine ⟨_, rfl, fun h' e => (by cases e), fun _ z => by omega, fun _ _ => ⟨rfl, rfl, fun h m hm => ?_⟩⟩
      show upd nl NL.length (nI l) h = _ ∧ ∀ k c, m[k]? = some c → t.2 (8 * h + k) = nI c
      rcases app_get hm with ⟨hi, hg⟩ | ⟨hi, he⟩
      · obtain ⟨e1, e2⟩ := hE h m hg
        obtain ⟨p1, p2, p3, p4⟩ := nms_get hN hg
        rw [upd_n (by omega)]
        refine ⟨e1, fun k c hc => ?_⟩
        have hk := (List.getElem?_eq_some_iff.mp hc).1
        rw [hp2 _ (by omega)]; exact e2 k c hc
      · subst he; subst hi
        rw [upd_s, bts_len]
        refine ⟨rfl, fun k c hc => ?_⟩
        have hk := (List.getElem?_eq_some_iff.mp hc).1
        rw [bts_len] at hk
        rw [bts_get hk] at hc
        rw [hp1 k hk, Option.some.inj hc]
