/-! count and sayings -/
def sumT (TX : Nat → List (Sy × Nat)) : Nat → Nat
  | 0 => 0
  | t + 1 => sumT TX t + (TX t).length
theorem sumC {tt : Nat → Nat} {dr : Nat} {sz : Nat → Int32} {w : Nat → Nat} {ow ot fs sn pc : Nat → Int32} {Hn : Nat} {TX : Nat → List (Sy × Nat)} (h : TXC tt dr sz w ow ot fs sn pc Hn TX) : f_X11_sayingsOfAll tt sz = some (nI (sumT TX 6)) := by
  obtain ⟨t, ht, hp⟩ := lp_rule (body := f_X11_sayingsOfAll_l4 tt sz) (fun sg => ∃ i : Nat, i ≤ 6 ∧ sg.2 = nI i ∧ sg.1 = nI (sumT TX i)) (fun sg => 6 - sg.2.toNatClampNeg) (fun t => t.1 = nI (sumT TX 6))
    (by
      intro sg hinv
      obtain ⟨i, hi, e1, e2⟩ := hinv
      unfold f_X11_sayingsOfAll_l4
      rw [e1, e2]
      by_cases hlt : i < 6
      · obtain ⟨h1, h2, h3, h4, h5, h6⟩ := h.2 i hlt
        rw [if_neg (show ¬ (6 : Int32) ≤ nI i from nI_ge (a := i) (b := 6) hlt (by omega)), gIn_of (vp_in_nI hlt (by omega)), nI_clamp (by omega), gN_of h1, h4, nI_add]
        exact Or.inl ⟨_, rfl, ⟨i + 1, hlt, by rw [← nI_1], rfl⟩, by rw [nI_1, nI_clamp (by omega)]; omega⟩
      · obtain rfl : i = 6 := by omega
        rw [if_pos (show (6 : Int32) ≤ nI 6 by decide)]
        exact Or.inr ⟨_, rfl, rfl⟩)
    gFU (0, 0) ⟨0, by omega, nI_0.symm, nI_0.symm⟩ (by show 6 - (0 : Int32).toNatClampNeg < 100000; omega)
  unfold f_X11_sayingsOfAll
  rw [ht]; simp only [bs]; rw [hp]
theorem sumR {ma so on ot lo hi bg : Nat → Int32} {Hn : Nat} {TX : Nat → List (Sy × Nat)} (h : TXR ma so on ot lo hi bg Hn TX) (a1 a2 a3 a4 a5 a6 : Int32) : ∃ q, lp (f_X12_count_l9 a1 a2 a3 a4 a5 ma a6) gFU (0, 0) = some q ∧ q.1 = nI (sumT TX 6) := by
  refine lp_rule (body := f_X12_count_l9 a1 a2 a3 a4 a5 ma a6) (fun sg => ∃ i : Nat, i ≤ 6 ∧ sg.2 = nI i ∧ sg.1 = nI (sumT TX i)) (fun sg => 6 - sg.2.toNatClampNeg) (fun t => t.1 = nI (sumT TX 6)) ?_ gFU (0, 0) ⟨0, by omega, nI_0.symm, nI_0.symm⟩ (by show 6 - (0 : Int32).toNatClampNeg < 100000; omega)
  intro sg hinv
  obtain ⟨i, hi, e1, e2⟩ := hinv
  unfold f_X12_count_l9
  rw [e1, e2]
  by_cases hlt : i < 6
  · obtain ⟨h4, h5, h6⟩ := h i hlt
    rw [if_neg (show ¬ (6 : Int32) ≤ nI i from nI_ge (a := i) (b := 6) hlt (by omega)), gIn_of (vp_in_nI (show i < 7 by omega) (by omega)), nI_clamp (by omega), h4, nI_add]
    exact Or.inl ⟨_, rfl, ⟨i + 1, hlt, by rw [← nI_1], rfl⟩, by rw [nI_1, nI_clamp (by omega)]; omega⟩
  · obtain rfl : i = 6 := by omega
    rw [if_pos (show (6 : Int32) ≤ nI 6 by decide)]
    exact Or.inr ⟨_, rfl, rfl⟩
theorem ouR_pre {NL NL' : List (List Nat)} {ou : Option Nat} (ho : ouI NL ou) (hp : NL <+: NL') {outs : Int32} {out : Nat → Int32} (h : ouR NL ou outs out) : ouR NL' ou outs out := by
  have e : ouL NL' ou = ouL NL ou := by
    cases ou with
    | none => rfl
    | some j =>
      have hj := ho j rfl
      obtain ⟨t, rfl⟩ := hp
      have h1 := ouL_get hj
      have h2 := ouL_get (NL := NL ++ t) (h := j) (by simp; omega)
      rw [List.getElem?_append_left hj, h1] at h2
      exact (Option.some.inj h2).symm
  unfold ouR
  rw [e]; exact h
theorem saying_codes {tt : Nat → Nat} {sz : Nat → Int32} {w : Nat → Nat} {ow ot fs sn pc : Nat → Int32} {p1 p2 p3 : Int32} {q : Int32 ⊕ Nat} (h : f_X11_saying tt sz w ow ot fs sn pc p1 p2 p3 = some q) {x : Nat} (hx : q = .inr x) : x = 1 ∨ x = 2 := by
  subst hx
  unfold f_X11_saying at h
  obtain ⟨q1, -, h⟩ := bd h
  by_cases c1 : q1 = 0
  · have h := it_p c1 h; cases so h; exact Or.inl rfl
  · have h := it_n c1 h
    obtain ⟨-, h⟩ := gIn_some h
    obtain ⟨-, h⟩ := gN_some h
    obtain ⟨q2, -, h⟩ := bd h
    by_cases c2 : q2 = 0
    · have h := it_p c2 h; cases so h; exact Or.inr rfl
    · have h := it_n c2 h
      obtain ⟨-, h⟩ := gIn_some h
      obtain ⟨-, h⟩ := gN_some h
      obtain ⟨-, h⟩ := gIn_some h
      by_cases d0 : p3 = 0
      · have h := it_p d0 h
        obtain ⟨-, h⟩ := gN_some h
        obtain ⟨-, h⟩ := gN_some h
        cases so h
      · have h := it_n d0 h
        by_cases d1 : p3 = 1
        · have h := it_p d1 h
          obtain ⟨-, h⟩ := gN_some h
          cases so h
        · have h := it_n d1 h
          by_cases d2 : p3 = 2
          · have h := it_p d2 h
            obtain ⟨-, h⟩ := gN_some h
            cases so h
          · have h := it_n d2 h
            by_cases d3 : p3 = 3
            · have h := it_p d3 h
              obtain ⟨-, h⟩ := gN_some h
              cases so h
            · have h := it_n d3 h
              by_cases d4 : p3 = 4
              · have h := it_p d4 h
                obtain ⟨-, h⟩ := gN_some h
                cases so h
              · have h := it_n d4 h
                by_cases d5 : p3 = 5
                · have h := it_p d5 h
                  obtain ⟨-, h⟩ := gN_some h
                  cases so h
                · have h := it_n d5 h
                  cases so h; exact Or.inr rfl
set_option maxHeartbeats 1000000 in
theorem st_count {B : Nat → Nat} {n : Nat} {NL : List (List Nat)} {TX : Nat → List (Sy × Nat)} {u fk : Nat} {ou : Option Nat} {m_out : Int32} {t_draft : Nat} {m_tlen : Int32} {a_bytes : Nat → Int32} {m_nsize : Int32} {m_drafted : Int32} {a_letters : Nat → Int32} {a_nlen : Nat → Int32} {t_texts : Nat → Nat} {m_here : Int32} {m_fkind : Int32} {m_fplace : Int32} {m_toks : Int32} {t_types : Nat → Nat} {a_starts : Nat → Int32} {a_tlens : Nat → Int32} {m_heard : Int32} {m_qsize : Int32} {m_wayKnown : Int32} {m_way : Int32} {m_qKnown : Int32} {m_lineKnown : Int32} {m_nodes : Int32} {m_lsize : Int32} {a_tails : Nat → Int32} {a_heads : Nat → Int32} {a_gaps : Nat → Int32} {a_least : Nat → Int32} {m_csize : Int32} {a_ctails : Nat → Int32} {a_cheads : Nat → Int32} {a_cgaps : Nat → Int32} {a_leftOut : Nat → Int32} {a_qrow : Nat → Int32} {a_line : Nat → Int32} {a_tsize : Nat → Int32} {t_word : Nat → Nat} {a_own : Nat → Int32} {a_oth : Nat → Int32} {a_fst : Nat → Int32} {a_snd : Nat → Int32} {a_plc : Nat → Int32} {rm_thrown : Int32} {rm_taped : Int32} {rm_size : Int32} {rm_to : Int32} {rm_from : Int32} {rm_kind : Int32} {rm_number : Int32} {rm_fault : Int32} {rm_place : Int32} {rm_name : Int64} {rm_happenings : Int32} {rm_newHappenings : Int32} {rm_heard : Int32} {rm_outs : Int32} {rm_bounds : Int32} {ra_tape : Nat → Int32} {ra_happened : Nat → Int64} {ra_many : Nat → Int32} {ra_sort : Nat → Int32} {ra_one : Nat → Int32} {ra_other : Nat → Int32} {ra_low : Nat → Int32} {ra_high : Nat → Int32} {ra_begins : Nat → Int32} {ra_out : Nat → Int32} {ra_behind : Nat → Int32} {ra_ahead : Nat → Int32} {ra_most : Nat → Int32} {ra_left : Nat → Int32} {ra_far : Nat → Int32} {ra_quarrel : Nat → Int32} {ra_early : Nat → Int32} {ra_earlyLast : Nat → Int32} (hC : CSt B n NL TX u fk ou m_out t_draft m_tlen a_bytes m_nsize m_drafted a_letters a_nlen t_texts m_here m_fkind m_fplace m_toks t_types a_starts a_tlens m_heard m_qsize m_wayKnown m_way m_qKnown m_lineKnown m_nodes m_lsize a_tails a_heads a_gaps a_least m_csize a_ctails a_cheads a_cgaps a_leftOut a_qrow a_line a_tsize t_word a_own a_oth a_fst a_snd a_plc) (hR : RSt B n NL TX u fk ou rm_thrown rm_taped rm_size rm_to rm_from rm_kind rm_number rm_fault rm_place rm_name rm_happenings rm_newHappenings rm_heard rm_outs rm_bounds ra_tape ra_happened ra_many ra_sort ra_one ra_other ra_low ra_high ra_begins ra_out ra_behind ra_ahead ra_most ra_left ra_far ra_quarrel ra_early ra_earlyLast) (p1 : Int32) : ∃ q r, f_X11_count m_out m_tlen m_nsize a_nlen t_texts m_heard a_tsize p1 = some q ∧ f_X12_count rm_thrown rm_taped rm_happenings rm_heard rm_outs ra_many p1 = some r ∧ q = r.1 ∧ ∃ (B' : Nat → Nat) (n' : Nat) (NL' : List (List Nat)) (TX' : Nat → List (Sy × Nat)) (u' fk' : Nat) (ou' : Option Nat), CSt B' n' NL' TX' u' fk' ou' m_out t_draft m_tlen a_bytes m_nsize m_drafted a_letters a_nlen t_texts m_here m_fkind m_fplace m_toks t_types a_starts a_tlens m_heard m_qsize m_wayKnown m_way m_qKnown m_lineKnown m_nodes m_lsize a_tails a_heads a_gaps a_least m_csize a_ctails a_cheads a_cgaps a_leftOut a_qrow a_line a_tsize t_word a_own a_oth a_fst a_snd a_plc ∧ RSt B' n' NL' TX' u' fk' ou' (r.2) rm_taped rm_size rm_to rm_from rm_kind rm_number rm_fault rm_place rm_name rm_happenings rm_newHappenings rm_heard rm_outs rm_bounds ra_tape ra_happened ra_many ra_sort ra_one ra_other ra_low ra_high ra_begins ra_out ra_behind ra_ahead ra_most ra_left ra_far ra_quarrel ra_early ra_earlyLast := by
  obtain ⟨c1, c2, c3, c4, c5, c6, c7, c8, c9, c10, c11, c12, c13, c14, c15, c16, c17, c18⟩ := hC
  obtain ⟨r1, r2, r3, r4, r5, r6, r7, r8⟩ := hR
  subst c6 c8 c9 c12 c13 c14 r1 r3 r6 r7
  have c20 := c2.1
  have cT := TXC_c c11
  have rT := TXR_r r5
  obtain ⟨r81, r82⟩ := r8
  subst r81
  obtain ⟨z, ez, hz⟩ := sumR r5 0 (nI n) (nI NL.length) (nI u) _ p1
  unfold f_X11_count f_X12_count
  rw [ez, sumC c11, outLen_C c2 c10 c5]
  simp only [bs]
  rw [hz]
  by_cases d0 : p1 = 0
  · rw [if_pos d0, if_pos d0]; exact ⟨_, _, rfl, rfl, rfl, B, n, NL, TX, u, fk, ou, ⟨c1, c2, c3, c4, c5, rfl, c7, rfl, rfl, c10, c11, rfl, rfl, rfl, c15, c16, c17, c18⟩, ⟨rfl, r2, rfl, r4, r5, rfl, rfl, ⟨rfl, r82⟩⟩⟩
  · rw [if_neg d0, if_neg d0]
    by_cases d1 : p1 = 1
    · rw [if_pos d1, if_pos d1]; exact ⟨_, _, rfl, rfl, rfl, B, n, NL, TX, u, fk, ou, ⟨c1, c2, c3, c4, c5, rfl, c7, rfl, rfl, c10, c11, rfl, rfl, rfl, c15, c16, c17, c18⟩, ⟨rfl, r2, rfl, r4, r5, rfl, rfl, ⟨rfl, r82⟩⟩⟩
    · rw [if_neg d1, if_neg d1]
      by_cases d2 : p1 = 2
      · rw [if_pos d2, if_pos d2]; exact ⟨_, _, rfl, rfl, rfl, B, n, NL, TX, u, fk, ou, ⟨c1, c2, c3, c4, c5, rfl, c7, rfl, rfl, c10, c11, rfl, rfl, rfl, c15, c16, c17, c18⟩, ⟨rfl, r2, rfl, r4, r5, rfl, rfl, ⟨rfl, r82⟩⟩⟩
      · rw [if_neg d2, if_neg d2]
        by_cases d3 : p1 = 3
        · rw [if_pos d3, if_pos d3]; exact ⟨_, _, rfl, rfl, rfl, B, n, NL, TX, u, fk, ou, ⟨c1, c2, c3, c4, c5, rfl, c7, rfl, rfl, c10, c11, rfl, rfl, rfl, c15, c16, c17, c18⟩, ⟨rfl, r2, rfl, r4, r5, rfl, rfl, ⟨rfl, r82⟩⟩⟩
        · rw [if_neg d3, if_neg d3]
          by_cases d4 : p1 = 4
          · rw [if_pos d4, if_pos d4]; exact ⟨_, _, rfl, rfl, rfl, B, n, NL, TX, u, fk, ou, ⟨c1, c2, c3, c4, c5, rfl, c7, rfl, rfl, c10, c11, rfl, rfl, rfl, c15, c16, c17, c18⟩, ⟨rfl, r2, rfl, r4, r5, rfl, rfl, ⟨rfl, r82⟩⟩⟩
          · rw [if_neg d4, if_neg d4]; exact ⟨_, _, rfl, rfl, rfl, B, n, NL, TX, u, fk, ou, ⟨c1, c2, c3, c4, c5, rfl, c7, rfl, rfl, c10, c11, rfl, rfl, rfl, c15, c16, c17, c18⟩, ⟨rfl, r2, rfl, r4, r5, rfl, rfl, ⟨rfl, r82⟩⟩⟩
set_option maxHeartbeats 1000000 in
theorem st_sayings {B : Nat → Nat} {n : Nat} {NL : List (List Nat)} {TX : Nat → List (Sy × Nat)} {u fk : Nat} {ou : Option Nat} {m_out : Int32} {t_draft : Nat} {m_tlen : Int32} {a_bytes : Nat → Int32} {m_nsize : Int32} {m_drafted : Int32} {a_letters : Nat → Int32} {a_nlen : Nat → Int32} {t_texts : Nat → Nat} {m_here : Int32} {m_fkind : Int32} {m_fplace : Int32} {m_toks : Int32} {t_types : Nat → Nat} {a_starts : Nat → Int32} {a_tlens : Nat → Int32} {m_heard : Int32} {m_qsize : Int32} {m_wayKnown : Int32} {m_way : Int32} {m_qKnown : Int32} {m_lineKnown : Int32} {m_nodes : Int32} {m_lsize : Int32} {a_tails : Nat → Int32} {a_heads : Nat → Int32} {a_gaps : Nat → Int32} {a_least : Nat → Int32} {m_csize : Int32} {a_ctails : Nat → Int32} {a_cheads : Nat → Int32} {a_cgaps : Nat → Int32} {a_leftOut : Nat → Int32} {a_qrow : Nat → Int32} {a_line : Nat → Int32} {a_tsize : Nat → Int32} {t_word : Nat → Nat} {a_own : Nat → Int32} {a_oth : Nat → Int32} {a_fst : Nat → Int32} {a_snd : Nat → Int32} {a_plc : Nat → Int32} {rm_thrown : Int32} {rm_taped : Int32} {rm_size : Int32} {rm_to : Int32} {rm_from : Int32} {rm_kind : Int32} {rm_number : Int32} {rm_fault : Int32} {rm_place : Int32} {rm_name : Int64} {rm_happenings : Int32} {rm_newHappenings : Int32} {rm_heard : Int32} {rm_outs : Int32} {rm_bounds : Int32} {ra_tape : Nat → Int32} {ra_happened : Nat → Int64} {ra_many : Nat → Int32} {ra_sort : Nat → Int32} {ra_one : Nat → Int32} {ra_other : Nat → Int32} {ra_low : Nat → Int32} {ra_high : Nat → Int32} {ra_begins : Nat → Int32} {ra_out : Nat → Int32} {ra_behind : Nat → Int32} {ra_ahead : Nat → Int32} {ra_most : Nat → Int32} {ra_left : Nat → Int32} {ra_far : Nat → Int32} {ra_quarrel : Nat → Int32} {ra_early : Nat → Int32} {ra_earlyLast : Nat → Int32} (hC : CSt B n NL TX u fk ou m_out t_draft m_tlen a_bytes m_nsize m_drafted a_letters a_nlen t_texts m_here m_fkind m_fplace m_toks t_types a_starts a_tlens m_heard m_qsize m_wayKnown m_way m_qKnown m_lineKnown m_nodes m_lsize a_tails a_heads a_gaps a_least m_csize a_ctails a_cheads a_cgaps a_leftOut a_qrow a_line a_tsize t_word a_own a_oth a_fst a_snd a_plc) (hR : RSt B n NL TX u fk ou rm_thrown rm_taped rm_size rm_to rm_from rm_kind rm_number rm_fault rm_place rm_name rm_happenings rm_newHappenings rm_heard rm_outs rm_bounds ra_tape ra_happened ra_many ra_sort ra_one ra_other ra_low ra_high ra_begins ra_out ra_behind ra_ahead ra_most ra_left ra_far ra_quarrel ra_early ra_earlyLast) (p1 : Int32) : ∃ q r, f_X11_sayings t_texts a_tsize p1 = some q ∧ f_X12_sayings rm_thrown ra_many p1 = some r ∧ (kOf (fun x => x) (fun x => x) 1 0 q).1 = r.2 ∧ ((kOf (fun x => x) (fun x => x) 1 0 q).1 = 0 → (kOf (fun x => x) (fun x => x) 1 0 q).2 = r.1) ∧ (∀ x, q = .inr x → x = 1) ∧ ∃ (B' : Nat → Nat) (n' : Nat) (NL' : List (List Nat)) (TX' : Nat → List (Sy × Nat)) (u' fk' : Nat) (ou' : Option Nat), (∀ x, q = .inl x → CSt B' n' NL' TX' u' fk' ou' m_out t_draft m_tlen a_bytes m_nsize m_drafted a_letters a_nlen t_texts m_here m_fkind m_fplace m_toks t_types a_starts a_tlens m_heard m_qsize m_wayKnown m_way m_qKnown m_lineKnown m_nodes m_lsize a_tails a_heads a_gaps a_least m_csize a_ctails a_cheads a_cgaps a_leftOut a_qrow a_line a_tsize t_word a_own a_oth a_fst a_snd a_plc) ∧ (∀ x, q = .inr x → CSt B' n' NL' TX' u' fk' ou' m_out t_draft m_tlen a_bytes m_nsize m_drafted a_letters a_nlen t_texts m_here m_fkind m_fplace m_toks t_types a_starts a_tlens m_heard m_qsize m_wayKnown m_way m_qKnown m_lineKnown m_nodes m_lsize a_tails a_heads a_gaps a_least m_csize a_ctails a_cheads a_cgaps a_leftOut a_qrow a_line a_tsize t_word a_own a_oth a_fst a_snd a_plc) ∧ RSt B' n' NL' TX' u' fk' ou' (r.2) rm_taped rm_size rm_to rm_from rm_kind rm_number rm_fault rm_place rm_name rm_happenings rm_newHappenings rm_heard rm_outs rm_bounds ra_tape ra_happened ra_many ra_sort ra_one ra_other ra_low ra_high ra_begins ra_out ra_behind ra_ahead ra_most ra_left ra_far ra_quarrel ra_early ra_earlyLast := by
  obtain ⟨c1, c2, c3, c4, c5, c6, c7, c8, c9, c10, c11, c12, c13, c14, c15, c16, c17, c18⟩ := hC
  obtain ⟨r1, r2, r3, r4, r5, r6, r7, r8⟩ := hR
  subst c6 c8 c9 c12 c13 c14 r1 r3 r6 r7
  have c20 := c2.1
  have cT := TXC_c c11
  have rT := TXR_r r5
  unfold f_X11_sayings f_X12_sayings
  rcases teller_C p1 with ⟨t, ht, rfl, e⟩ | ⟨hno, e⟩
  · obtain ⟨h1, h2, h3, h4, h5, h6⟩ := c11.2 t ht
    obtain ⟨g4, g5, g6⟩ := r5 t ht
    rcases teller_R (nI t) with ⟨t2, ht2, e2, e3⟩ | ⟨hno, -⟩
    · rw [e, e3]; simp only [bs]
      rw [if_neg (show ¬ (1 : Int32) = 0 by decide), if_neg (show ¬ (1 : Int32) = 0 by decide), gIn_of (vp_in_nI ht (by omega)), gIn_of (vp_in_nI (show t < 7 by omega) (by omega)), nI_clamp (by omega), gN_of h1, h4, g4]
      exact ⟨_, _, rfl, rfl, rfl, fun _ => rfl, fun x hx => (by cases hx), B, n, NL, TX, u, fk, ou, fun x _ => ⟨c1, c2, c3, c4, c5, rfl, c7, rfl, rfl, c10, c11, rfl, rfl, rfl, c15, c16, c17, c18⟩, fun x _ => ⟨c1, c2, c3, c4, c5, rfl, c7, rfl, rfl, c10, c11, rfl, rfl, rfl, c15, c16, c17, c18⟩, ⟨rfl, r2, rfl, r4, r5, rfl, rfl, r8⟩⟩
    · exact absurd rfl (hno t ht)
  · rcases teller_R p1 with ⟨t2, ht2, e2, -⟩ | ⟨-, e3⟩
    · exact absurd e2 (hno t2 ht2)
    · rw [e, e3]; simp only [bs]
      rw [if_pos trivial, if_pos trivial]
      unfold f_X12_refuse
      exact ⟨_, _, rfl, rfl, rfl, fun z => absurd z (by decide), fun x hx => (by cases hx; rfl), B, n, NL, TX, u, fk, ou, fun x _ => ⟨c1, c2, c3, c4, c5, rfl, c7, rfl, rfl, c10, c11, rfl, rfl, rfl, c15, c16, c17, c18⟩, fun x _ => ⟨c1, c2, c3, c4, c5, rfl, c7, rfl, rfl, c10, c11, rfl, rfl, rfl, c15, c16, c17, c18⟩, ⟨rfl, r2, rfl, r4, r5, rfl, rfl, r8⟩⟩
set_option maxHeartbeats 1000000 in
theorem st_octet {B : Nat → Nat} {n : Nat} {NL : List (List Nat)} {TX : Nat → List (Sy × Nat)} {u fk : Nat} {ou : Option Nat} {m_out : Int32} {t_draft : Nat} {m_tlen : Int32} {a_bytes : Nat → Int32} {m_nsize : Int32} {m_drafted : Int32} {a_letters : Nat → Int32} {a_nlen : Nat → Int32} {t_texts : Nat → Nat} {m_here : Int32} {m_fkind : Int32} {m_fplace : Int32} {m_toks : Int32} {t_types : Nat → Nat} {a_starts : Nat → Int32} {a_tlens : Nat → Int32} {m_heard : Int32} {m_qsize : Int32} {m_wayKnown : Int32} {m_way : Int32} {m_qKnown : Int32} {m_lineKnown : Int32} {m_nodes : Int32} {m_lsize : Int32} {a_tails : Nat → Int32} {a_heads : Nat → Int32} {a_gaps : Nat → Int32} {a_least : Nat → Int32} {m_csize : Int32} {a_ctails : Nat → Int32} {a_cheads : Nat → Int32} {a_cgaps : Nat → Int32} {a_leftOut : Nat → Int32} {a_qrow : Nat → Int32} {a_line : Nat → Int32} {a_tsize : Nat → Int32} {t_word : Nat → Nat} {a_own : Nat → Int32} {a_oth : Nat → Int32} {a_fst : Nat → Int32} {a_snd : Nat → Int32} {a_plc : Nat → Int32} {rm_thrown : Int32} {rm_taped : Int32} {rm_size : Int32} {rm_to : Int32} {rm_from : Int32} {rm_kind : Int32} {rm_number : Int32} {rm_fault : Int32} {rm_place : Int32} {rm_name : Int64} {rm_happenings : Int32} {rm_newHappenings : Int32} {rm_heard : Int32} {rm_outs : Int32} {rm_bounds : Int32} {ra_tape : Nat → Int32} {ra_happened : Nat → Int64} {ra_many : Nat → Int32} {ra_sort : Nat → Int32} {ra_one : Nat → Int32} {ra_other : Nat → Int32} {ra_low : Nat → Int32} {ra_high : Nat → Int32} {ra_begins : Nat → Int32} {ra_out : Nat → Int32} {ra_behind : Nat → Int32} {ra_ahead : Nat → Int32} {ra_most : Nat → Int32} {ra_left : Nat → Int32} {ra_far : Nat → Int32} {ra_quarrel : Nat → Int32} {ra_early : Nat → Int32} {ra_earlyLast : Nat → Int32} (hC : CSt B n NL TX u fk ou m_out t_draft m_tlen a_bytes m_nsize m_drafted a_letters a_nlen t_texts m_here m_fkind m_fplace m_toks t_types a_starts a_tlens m_heard m_qsize m_wayKnown m_way m_qKnown m_lineKnown m_nodes m_lsize a_tails a_heads a_gaps a_least m_csize a_ctails a_cheads a_cgaps a_leftOut a_qrow a_line a_tsize t_word a_own a_oth a_fst a_snd a_plc) (hR : RSt B n NL TX u fk ou rm_thrown rm_taped rm_size rm_to rm_from rm_kind rm_number rm_fault rm_place rm_name rm_happenings rm_newHappenings rm_heard rm_outs rm_bounds ra_tape ra_happened ra_many ra_sort ra_one ra_other ra_low ra_high ra_begins ra_out ra_behind ra_ahead ra_most ra_left ra_far ra_quarrel ra_early ra_earlyLast) (p1 : Int32) : ∃ q r, f_X11_octet m_out m_nsize a_letters a_nlen p1 = some q ∧ f_X12_octet rm_thrown rm_outs ra_out p1 = some r ∧ (kOf (fun x => x) (fun x => x) 0 1 q).1 = r.2 ∧ ((kOf (fun x => x) (fun x => x) 0 1 q).1 = 0 → (kOf (fun x => x) (fun x => x) 0 1 q).2 = r.1) ∧ (∀ x, q = .inr x → x = 2) ∧ ∃ (B' : Nat → Nat) (n' : Nat) (NL' : List (List Nat)) (TX' : Nat → List (Sy × Nat)) (u' fk' : Nat) (ou' : Option Nat), (∀ x, q = .inl x → CSt B' n' NL' TX' u' fk' ou' m_out t_draft m_tlen a_bytes m_nsize m_drafted a_letters a_nlen t_texts m_here m_fkind m_fplace m_toks t_types a_starts a_tlens m_heard m_qsize m_wayKnown m_way m_qKnown m_lineKnown m_nodes m_lsize a_tails a_heads a_gaps a_least m_csize a_ctails a_cheads a_cgaps a_leftOut a_qrow a_line a_tsize t_word a_own a_oth a_fst a_snd a_plc) ∧ (∀ x, q = .inr x → CSt B' n' NL' TX' u' fk' ou' m_out t_draft m_tlen a_bytes m_nsize m_drafted a_letters a_nlen t_texts m_here m_fkind m_fplace m_toks t_types a_starts a_tlens m_heard m_qsize m_wayKnown m_way m_qKnown m_lineKnown m_nodes m_lsize a_tails a_heads a_gaps a_least m_csize a_ctails a_cheads a_cgaps a_leftOut a_qrow a_line a_tsize t_word a_own a_oth a_fst a_snd a_plc) ∧ RSt B' n' NL' TX' u' fk' ou' (r.2) rm_taped rm_size rm_to rm_from rm_kind rm_number rm_fault rm_place rm_name rm_happenings rm_newHappenings rm_heard rm_outs rm_bounds ra_tape ra_happened ra_many ra_sort ra_one ra_other ra_low ra_high ra_begins ra_out ra_behind ra_ahead ra_most ra_left ra_far ra_quarrel ra_early ra_earlyLast := by
  obtain ⟨c1, c2, c3, c4, c5, c6, c7, c8, c9, c10, c11, c12, c13, c14, c15, c16, c17, c18⟩ := hC
  obtain ⟨r1, r2, r3, r4, r5, r6, r7, r8⟩ := hR
  subst c6 c8 c9 c12 c13 c14 r1 r3 r6 r7
  have c20 := c2.1
  have cT := TXC_c c11
  have rT := TXR_r r5
  obtain ⟨q, eq, q1, q2⟩ := octet_C c2 c10 c5 p1
  obtain ⟨r, er, s1, s2⟩ := octet_R c2 c5 r8 rm_thrown p1
  refine ⟨q, r, eq, er, ?_⟩
  by_cases h : ∃ k, k < (ouL NL ou).length ∧ p1 = nI k
  · obtain ⟨k, hk, e⟩ := h
    have hl := List.getElem?_eq_getElem hk
    have a1 := q1 k _ e hl
    obtain ⟨b1, b2⟩ := s1 k _ e hl
    subst a1
    exact ⟨by rw [b2]; rfl, fun _ => by rw [b1]; rfl, fun x hx => (by cases hx), B, n, NL, TX, u, fk, ou, fun x _ => ⟨c1, c2, c3, c4, c5, rfl, c7, rfl, rfl, c10, c11, rfl, rfl, rfl, c15, c16, c17, c18⟩, fun x _ => ⟨c1, c2, c3, c4, c5, rfl, c7, rfl, rfl, c10, c11, rfl, rfl, rfl, c15, c16, c17, c18⟩, ⟨rfl, r2, rfl, r4, r5, rfl, rfl, r8⟩⟩
  · have hno : ∀ k, k < (ouL NL ou).length → ¬ p1 = nI k := fun k hk e => h ⟨k, hk, e⟩
    have a1 := q2 hno
    have b1 := s2 hno
    subst a1
    exact ⟨by rw [b1]; rfl, fun z => absurd z (by decide), fun x hx => (by cases hx; rfl), B, n, NL, TX, u, fk, ou, fun x _ => ⟨c1, c2, c3, c4, c5, rfl, c7, rfl, rfl, c10, c11, rfl, rfl, rfl, c15, c16, c17, c18⟩, fun x _ => ⟨c1, c2, c3, c4, c5, rfl, c7, rfl, rfl, c10, c11, rfl, rfl, rfl, c15, c16, c17, c18⟩, ⟨rfl, r2, rfl, r4, r5, rfl, rfl, r8⟩⟩
set_option maxHeartbeats 1000000 in
theorem st_saying {B : Nat → Nat} {n : Nat} {NL : List (List Nat)} {TX : Nat → List (Sy × Nat)} {u fk : Nat} {ou : Option Nat} {m_out : Int32} {t_draft : Nat} {m_tlen : Int32} {a_bytes : Nat → Int32} {m_nsize : Int32} {m_drafted : Int32} {a_letters : Nat → Int32} {a_nlen : Nat → Int32} {t_texts : Nat → Nat} {m_here : Int32} {m_fkind : Int32} {m_fplace : Int32} {m_toks : Int32} {t_types : Nat → Nat} {a_starts : Nat → Int32} {a_tlens : Nat → Int32} {m_heard : Int32} {m_qsize : Int32} {m_wayKnown : Int32} {m_way : Int32} {m_qKnown : Int32} {m_lineKnown : Int32} {m_nodes : Int32} {m_lsize : Int32} {a_tails : Nat → Int32} {a_heads : Nat → Int32} {a_gaps : Nat → Int32} {a_least : Nat → Int32} {m_csize : Int32} {a_ctails : Nat → Int32} {a_cheads : Nat → Int32} {a_cgaps : Nat → Int32} {a_leftOut : Nat → Int32} {a_qrow : Nat → Int32} {a_line : Nat → Int32} {a_tsize : Nat → Int32} {t_word : Nat → Nat} {a_own : Nat → Int32} {a_oth : Nat → Int32} {a_fst : Nat → Int32} {a_snd : Nat → Int32} {a_plc : Nat → Int32} {rm_thrown : Int32} {rm_taped : Int32} {rm_size : Int32} {rm_to : Int32} {rm_from : Int32} {rm_kind : Int32} {rm_number : Int32} {rm_fault : Int32} {rm_place : Int32} {rm_name : Int64} {rm_happenings : Int32} {rm_newHappenings : Int32} {rm_heard : Int32} {rm_outs : Int32} {rm_bounds : Int32} {ra_tape : Nat → Int32} {ra_happened : Nat → Int64} {ra_many : Nat → Int32} {ra_sort : Nat → Int32} {ra_one : Nat → Int32} {ra_other : Nat → Int32} {ra_low : Nat → Int32} {ra_high : Nat → Int32} {ra_begins : Nat → Int32} {ra_out : Nat → Int32} {ra_behind : Nat → Int32} {ra_ahead : Nat → Int32} {ra_most : Nat → Int32} {ra_left : Nat → Int32} {ra_far : Nat → Int32} {ra_quarrel : Nat → Int32} {ra_early : Nat → Int32} {ra_earlyLast : Nat → Int32} (hC : CSt B n NL TX u fk ou m_out t_draft m_tlen a_bytes m_nsize m_drafted a_letters a_nlen t_texts m_here m_fkind m_fplace m_toks t_types a_starts a_tlens m_heard m_qsize m_wayKnown m_way m_qKnown m_lineKnown m_nodes m_lsize a_tails a_heads a_gaps a_least m_csize a_ctails a_cheads a_cgaps a_leftOut a_qrow a_line a_tsize t_word a_own a_oth a_fst a_snd a_plc) (hR : RSt B n NL TX u fk ou rm_thrown rm_taped rm_size rm_to rm_from rm_kind rm_number rm_fault rm_place rm_name rm_happenings rm_newHappenings rm_heard rm_outs rm_bounds ra_tape ra_happened ra_many ra_sort ra_one ra_other ra_low ra_high ra_begins ra_out ra_behind ra_ahead ra_most ra_left ra_far ra_quarrel ra_early ra_earlyLast) (p1 : Int32) (p2 : Int32) (p3 : Int32) : ∃ q r, f_X11_saying t_texts a_tsize t_word a_own a_oth a_fst a_snd a_plc p1 p2 p3 = some q ∧ f_X12_saying rm_thrown ra_many ra_sort ra_one ra_other ra_low ra_high ra_begins p1 p2 p3 = some r ∧ (kOf (fun x => x) (fun x => x) 1 2 q).1 = r.2 ∧ ((kOf (fun x => x) (fun x => x) 1 2 q).1 = 0 → (kOf (fun x => x) (fun x => x) 1 2 q).2 = r.1) ∧ (∀ x, q = .inr x → x = 1 ∨ x = 2) ∧ ∃ (B' : Nat → Nat) (n' : Nat) (NL' : List (List Nat)) (TX' : Nat → List (Sy × Nat)) (u' fk' : Nat) (ou' : Option Nat), (∀ x, q = .inl x → CSt B' n' NL' TX' u' fk' ou' m_out t_draft m_tlen a_bytes m_nsize m_drafted a_letters a_nlen t_texts m_here m_fkind m_fplace m_toks t_types a_starts a_tlens m_heard m_qsize m_wayKnown m_way m_qKnown m_lineKnown m_nodes m_lsize a_tails a_heads a_gaps a_least m_csize a_ctails a_cheads a_cgaps a_leftOut a_qrow a_line a_tsize t_word a_own a_oth a_fst a_snd a_plc) ∧ (∀ x, q = .inr x → CSt B' n' NL' TX' u' fk' ou' m_out t_draft m_tlen a_bytes m_nsize m_drafted a_letters a_nlen t_texts m_here m_fkind m_fplace m_toks t_types a_starts a_tlens m_heard m_qsize m_wayKnown m_way m_qKnown m_lineKnown m_nodes m_lsize a_tails a_heads a_gaps a_least m_csize a_ctails a_cheads a_cgaps a_leftOut a_qrow a_line a_tsize t_word a_own a_oth a_fst a_snd a_plc) ∧ RSt B' n' NL' TX' u' fk' ou' (r.2) rm_taped rm_size rm_to rm_from rm_kind rm_number rm_fault rm_place rm_name rm_happenings rm_newHappenings rm_heard rm_outs rm_bounds ra_tape ra_happened ra_many ra_sort ra_one ra_other ra_low ra_high ra_begins ra_out ra_behind ra_ahead ra_most ra_left ra_far ra_quarrel ra_early ra_earlyLast := by
  obtain ⟨c1, c2, c3, c4, c5, c6, c7, c8, c9, c10, c11, c12, c13, c14, c15, c16, c17, c18⟩ := hC
  obtain ⟨r1, r2, r3, r4, r5, r6, r7, r8⟩ := hR
  subst c6 c8 c9 c12 c13 c14 r1 r3 r6 r7
  have c20 := c2.1
  have cT := TXC_c c11
  have rT := TXR_r r5
  obtain ⟨q, eq, q1⟩ := saying_C c11 p1 p2 p3
  obtain ⟨r, er, s1⟩ := sayq_R r5 rm_thrown p1 p2 p3
  obtain ⟨h1, h2⟩ := sayS_one (fun t ht => (r5 t ht).2.1) q1 s1
  refine ⟨q, r, eq, er, h1, h2, fun x hx => ?_, B, n, NL, TX, u, fk, ou, fun x _ => ⟨c1, c2, c3, c4, c5, rfl, c7, rfl, rfl, c10, c11, rfl, rfl, rfl, c15, c16, c17, c18⟩, fun x _ => ⟨c1, c2, c3, c4, c5, rfl, c7, rfl, rfl, c10, c11, rfl, rfl, rfl, c15, c16, c17, c18⟩, ⟨rfl, r2, rfl, r4, r5, rfl, rfl, r8⟩⟩
  exact saying_codes eq hx
set_option maxHeartbeats 1000000 in
theorem st_between {B : Nat → Nat} {n : Nat} {NL : List (List Nat)} {TX : Nat → List (Sy × Nat)} {u fk : Nat} {ou : Option Nat} {m_out : Int32} {t_draft : Nat} {m_tlen : Int32} {a_bytes : Nat → Int32} {m_nsize : Int32} {m_drafted : Int32} {a_letters : Nat → Int32} {a_nlen : Nat → Int32} {t_texts : Nat → Nat} {m_here : Int32} {m_fkind : Int32} {m_fplace : Int32} {m_toks : Int32} {t_types : Nat → Nat} {a_starts : Nat → Int32} {a_tlens : Nat → Int32} {m_heard : Int32} {m_qsize : Int32} {m_wayKnown : Int32} {m_way : Int32} {m_qKnown : Int32} {m_lineKnown : Int32} {m_nodes : Int32} {m_lsize : Int32} {a_tails : Nat → Int32} {a_heads : Nat → Int32} {a_gaps : Nat → Int32} {a_least : Nat → Int32} {m_csize : Int32} {a_ctails : Nat → Int32} {a_cheads : Nat → Int32} {a_cgaps : Nat → Int32} {a_leftOut : Nat → Int32} {a_qrow : Nat → Int32} {a_line : Nat → Int32} {a_tsize : Nat → Int32} {t_word : Nat → Nat} {a_own : Nat → Int32} {a_oth : Nat → Int32} {a_fst : Nat → Int32} {a_snd : Nat → Int32} {a_plc : Nat → Int32} {rm_thrown : Int32} {rm_taped : Int32} {rm_size : Int32} {rm_to : Int32} {rm_from : Int32} {rm_kind : Int32} {rm_number : Int32} {rm_fault : Int32} {rm_place : Int32} {rm_name : Int64} {rm_happenings : Int32} {rm_newHappenings : Int32} {rm_heard : Int32} {rm_outs : Int32} {rm_bounds : Int32} {ra_tape : Nat → Int32} {ra_happened : Nat → Int64} {ra_many : Nat → Int32} {ra_sort : Nat → Int32} {ra_one : Nat → Int32} {ra_other : Nat → Int32} {ra_low : Nat → Int32} {ra_high : Nat → Int32} {ra_begins : Nat → Int32} {ra_out : Nat → Int32} {ra_behind : Nat → Int32} {ra_ahead : Nat → Int32} {ra_most : Nat → Int32} {ra_left : Nat → Int32} {ra_far : Nat → Int32} {ra_quarrel : Nat → Int32} {ra_early : Nat → Int32} {ra_earlyLast : Nat → Int32} (hC : CSt B n NL TX u fk ou m_out t_draft m_tlen a_bytes m_nsize m_drafted a_letters a_nlen t_texts m_here m_fkind m_fplace m_toks t_types a_starts a_tlens m_heard m_qsize m_wayKnown m_way m_qKnown m_lineKnown m_nodes m_lsize a_tails a_heads a_gaps a_least m_csize a_ctails a_cheads a_cgaps a_leftOut a_qrow a_line a_tsize t_word a_own a_oth a_fst a_snd a_plc) (hR : RSt B n NL TX u fk ou rm_thrown rm_taped rm_size rm_to rm_from rm_kind rm_number rm_fault rm_place rm_name rm_happenings rm_newHappenings rm_heard rm_outs rm_bounds ra_tape ra_happened ra_many ra_sort ra_one ra_other ra_low ra_high ra_begins ra_out ra_behind ra_ahead ra_most ra_left ra_far ra_quarrel ra_early ra_earlyLast) (p1 : Int32) (p2 : Int32) (p3 : Int32) : ∃ q r, f_X11_between m_nsize t_texts m_heard m_wayKnown m_way m_nodes m_lsize a_tails a_heads a_gaps a_least a_leftOut a_tsize t_word a_own a_oth a_fst a_snd p1 p2 p3 = some q ∧ f_X12_between rm_thrown rm_happenings rm_heard rm_bounds ra_many ra_sort ra_one ra_other ra_low ra_high ra_behind ra_ahead ra_most ra_left ra_far p1 p2 p3 = some r ∧ (kOf (fun x => x.1) (fun x => x.1) 0 1 q).1 = r.2.1 ∧ ((kOf (fun x => x.1) (fun x => x.1) 0 1 q).1 = 0 → (kOf (fun x => x.1) (fun x => x.1) 0 1 q).2 = r.1) ∧ (∀ x, q = .inr x → x.1 = 2) ∧ ∃ (B' : Nat → Nat) (n' : Nat) (NL' : List (List Nat)) (TX' : Nat → List (Sy × Nat)) (u' fk' : Nat) (ou' : Option Nat), (∀ x, q = .inl x → CSt B' n' NL' TX' u' fk' ou' m_out t_draft m_tlen a_bytes m_nsize m_drafted a_letters a_nlen t_texts m_here m_fkind m_fplace m_toks t_types a_starts a_tlens m_heard m_qsize (x.2.1) (x.2.2.1) m_qKnown m_lineKnown (x.2.2.2.1) (x.2.2.2.2.1) (x.2.2.2.2.2.1) (x.2.2.2.2.2.2.1) (x.2.2.2.2.2.2.2.1) (x.2.2.2.2.2.2.2.2) m_csize a_ctails a_cheads a_cgaps a_leftOut a_qrow a_line a_tsize t_word a_own a_oth a_fst a_snd a_plc) ∧ (∀ x, q = .inr x → CSt B' n' NL' TX' u' fk' ou' m_out t_draft m_tlen a_bytes m_nsize m_drafted a_letters a_nlen t_texts m_here m_fkind m_fplace m_toks t_types a_starts a_tlens m_heard m_qsize (x.2.1) (x.2.2.1) m_qKnown m_lineKnown (x.2.2.2.1) (x.2.2.2.2.1) (x.2.2.2.2.2.1) (x.2.2.2.2.2.2.1) (x.2.2.2.2.2.2.2.1) (x.2.2.2.2.2.2.2.2) m_csize a_ctails a_cheads a_cgaps a_leftOut a_qrow a_line a_tsize t_word a_own a_oth a_fst a_snd a_plc) ∧ RSt B' n' NL' TX' u' fk' ou' (r.2.1) rm_taped rm_size rm_to rm_from rm_kind rm_number rm_fault rm_place rm_name rm_happenings rm_newHappenings rm_heard rm_outs (r.2.2.1) ra_tape ra_happened ra_many ra_sort ra_one ra_other ra_low ra_high ra_begins ra_out (r.2.2.2.1) (r.2.2.2.2.1) (r.2.2.2.2.2.1) (r.2.2.2.2.2.2.1) (r.2.2.2.2.2.2.2) ra_quarrel ra_early ra_earlyLast := by
  obtain ⟨c1, c2, c3, c4, c5, c6, c7, c8, c9, c10, c11, c12, c13, c14, c15, c16, c17, c18⟩ := hC
  obtain ⟨r1, r2, r3, r4, r5, r6, r7, r8⟩ := hR
  subst c6 c8 c9 c12 c13 c14 r1 r3 r6 r7
  have c20 := c2.1
  have cT := TXC_c c11
  have rT := TXR_r r5
  obtain ⟨q, eq, q1, q2⟩ := between_C c20 cT (nI u) m_wayKnown m_way m_nodes m_lsize a_tails a_heads a_gaps a_least a_leftOut c18 c15 p1 p2 p3
  obtain ⟨r, er, s1⟩ := between_R c20 rT rm_thrown (nI u) rm_bounds ra_behind ra_ahead ra_most ra_left ra_far p1 p2 p3
  obtain ⟨h1, h2⟩ := btS_one q1 s1
  refine ⟨q, r, eq, er, h1, h2, fun x hx => ?_, B, n, NL, TX, u, fk, ou, fun x hx => ?_, fun x hx => ?_, ⟨rfl, r2, rfl, r4, r5, rfl, rfl, r8⟩⟩
  · subst hx; exact q2.1
  · subst hx; exact ⟨c1, c2, c3, c4, c5, rfl, c7, rfl, rfl, c10, c11, rfl, rfl, rfl, q2, c16, c17, c18⟩
  · subst hx; exact ⟨c1, c2, c3, c4, c5, rfl, c7, rfl, rfl, c10, c11, rfl, rfl, rfl, q2.2, c16, c17, c18⟩
set_option maxHeartbeats 1000000 in
theorem st_needless {B : Nat → Nat} {n : Nat} {NL : List (List Nat)} {TX : Nat → List (Sy × Nat)} {u fk : Nat} {ou : Option Nat} {m_out : Int32} {t_draft : Nat} {m_tlen : Int32} {a_bytes : Nat → Int32} {m_nsize : Int32} {m_drafted : Int32} {a_letters : Nat → Int32} {a_nlen : Nat → Int32} {t_texts : Nat → Nat} {m_here : Int32} {m_fkind : Int32} {m_fplace : Int32} {m_toks : Int32} {t_types : Nat → Nat} {a_starts : Nat → Int32} {a_tlens : Nat → Int32} {m_heard : Int32} {m_qsize : Int32} {m_wayKnown : Int32} {m_way : Int32} {m_qKnown : Int32} {m_lineKnown : Int32} {m_nodes : Int32} {m_lsize : Int32} {a_tails : Nat → Int32} {a_heads : Nat → Int32} {a_gaps : Nat → Int32} {a_least : Nat → Int32} {m_csize : Int32} {a_ctails : Nat → Int32} {a_cheads : Nat → Int32} {a_cgaps : Nat → Int32} {a_leftOut : Nat → Int32} {a_qrow : Nat → Int32} {a_line : Nat → Int32} {a_tsize : Nat → Int32} {t_word : Nat → Nat} {a_own : Nat → Int32} {a_oth : Nat → Int32} {a_fst : Nat → Int32} {a_snd : Nat → Int32} {a_plc : Nat → Int32} {rm_thrown : Int32} {rm_taped : Int32} {rm_size : Int32} {rm_to : Int32} {rm_from : Int32} {rm_kind : Int32} {rm_number : Int32} {rm_fault : Int32} {rm_place : Int32} {rm_name : Int64} {rm_happenings : Int32} {rm_newHappenings : Int32} {rm_heard : Int32} {rm_outs : Int32} {rm_bounds : Int32} {ra_tape : Nat → Int32} {ra_happened : Nat → Int64} {ra_many : Nat → Int32} {ra_sort : Nat → Int32} {ra_one : Nat → Int32} {ra_other : Nat → Int32} {ra_low : Nat → Int32} {ra_high : Nat → Int32} {ra_begins : Nat → Int32} {ra_out : Nat → Int32} {ra_behind : Nat → Int32} {ra_ahead : Nat → Int32} {ra_most : Nat → Int32} {ra_left : Nat → Int32} {ra_far : Nat → Int32} {ra_quarrel : Nat → Int32} {ra_early : Nat → Int32} {ra_earlyLast : Nat → Int32} (hC : CSt B n NL TX u fk ou m_out t_draft m_tlen a_bytes m_nsize m_drafted a_letters a_nlen t_texts m_here m_fkind m_fplace m_toks t_types a_starts a_tlens m_heard m_qsize m_wayKnown m_way m_qKnown m_lineKnown m_nodes m_lsize a_tails a_heads a_gaps a_least m_csize a_ctails a_cheads a_cgaps a_leftOut a_qrow a_line a_tsize t_word a_own a_oth a_fst a_snd a_plc) (hR : RSt B n NL TX u fk ou rm_thrown rm_taped rm_size rm_to rm_from rm_kind rm_number rm_fault rm_place rm_name rm_happenings rm_newHappenings rm_heard rm_outs rm_bounds ra_tape ra_happened ra_many ra_sort ra_one ra_other ra_low ra_high ra_begins ra_out ra_behind ra_ahead ra_most ra_left ra_far ra_quarrel ra_early ra_earlyLast) (p1 : Int32) (p2 : Int32) : ∃ q r, f_X11_needless m_nsize t_texts m_heard m_wayKnown m_way m_nodes m_lsize a_tails a_heads a_gaps a_least m_csize a_ctails a_cheads a_cgaps a_leftOut a_tsize t_word a_own a_oth a_fst a_snd p1 p2 = some q ∧ f_X12_needless rm_thrown rm_happenings rm_heard rm_bounds ra_many ra_sort ra_one ra_other ra_low ra_high ra_behind ra_ahead ra_most ra_left ra_far p1 p2 = some r ∧ (kOf (fun x => x.1) (fun x => x.1) 1 0 q).1 = r.2.1 ∧ ((kOf (fun x => x.1) (fun x => x.1) 1 0 q).1 = 0 → (kOf (fun x => x.1) (fun x => x.1) 1 0 q).2 = r.1) ∧ (∀ x, q = .inr x → x.1 = 1) ∧ ∃ (B' : Nat → Nat) (n' : Nat) (NL' : List (List Nat)) (TX' : Nat → List (Sy × Nat)) (u' fk' : Nat) (ou' : Option Nat), (∀ x, q = .inl x → CSt B' n' NL' TX' u' fk' ou' m_out t_draft m_tlen a_bytes m_nsize m_drafted a_letters a_nlen t_texts m_here m_fkind m_fplace m_toks t_types a_starts a_tlens m_heard m_qsize (x.2.1) (x.2.2.1) m_qKnown m_lineKnown (x.2.2.2.1) (x.2.2.2.2.1) (x.2.2.2.2.2.1) (x.2.2.2.2.2.2.1) (x.2.2.2.2.2.2.2.1) (x.2.2.2.2.2.2.2.2.1) (x.2.2.2.2.2.2.2.2.2.1) (x.2.2.2.2.2.2.2.2.2.2.1) (x.2.2.2.2.2.2.2.2.2.2.2.1) (x.2.2.2.2.2.2.2.2.2.2.2.2.1) (x.2.2.2.2.2.2.2.2.2.2.2.2.2) a_qrow a_line a_tsize t_word a_own a_oth a_fst a_snd a_plc) ∧ (∀ x, q = .inr x → CSt B' n' NL' TX' u' fk' ou' m_out t_draft m_tlen a_bytes m_nsize m_drafted a_letters a_nlen t_texts m_here m_fkind m_fplace m_toks t_types a_starts a_tlens m_heard m_qsize (x.2.1) (x.2.2.1) m_qKnown m_lineKnown (x.2.2.2.1) (x.2.2.2.2.1) (x.2.2.2.2.2.1) (x.2.2.2.2.2.2.1) (x.2.2.2.2.2.2.2.1) (x.2.2.2.2.2.2.2.2.1) (x.2.2.2.2.2.2.2.2.2.1) (x.2.2.2.2.2.2.2.2.2.2.1) (x.2.2.2.2.2.2.2.2.2.2.2.1) (x.2.2.2.2.2.2.2.2.2.2.2.2.1) (x.2.2.2.2.2.2.2.2.2.2.2.2.2) a_qrow a_line a_tsize t_word a_own a_oth a_fst a_snd a_plc) ∧ RSt B' n' NL' TX' u' fk' ou' (r.2.1) rm_taped rm_size rm_to rm_from rm_kind rm_number rm_fault rm_place rm_name rm_happenings rm_newHappenings rm_heard rm_outs (r.2.2.1) ra_tape ra_happened ra_many ra_sort ra_one ra_other ra_low ra_high ra_begins ra_out (r.2.2.2.1) (r.2.2.2.2.1) (r.2.2.2.2.2.1) (r.2.2.2.2.2.2.1) (r.2.2.2.2.2.2.2) ra_quarrel ra_early ra_earlyLast := by
  obtain ⟨c1, c2, c3, c4, c5, c6, c7, c8, c9, c10, c11, c12, c13, c14, c15, c16, c17, c18⟩ := hC
  obtain ⟨r1, r2, r3, r4, r5, r6, r7, r8⟩ := hR
  subst c6 c8 c9 c12 c13 c14 r1 r3 r6 r7
  have c20 := c2.1
  have cT := TXC_c c11
  have rT := TXR_r r5
  obtain ⟨q, eq, q1, q2⟩ := needless_C c20 cT (nI u) m_wayKnown m_way m_nodes m_lsize m_csize a_tails a_heads a_gaps a_least a_ctails a_cheads a_cgaps a_leftOut c18 c15 p1 p2
  obtain ⟨r, er, s1, s2⟩ := needless_R c20 rT rm_thrown (nI u) rm_bounds ra_behind ra_ahead ra_most ra_left ra_far p1 p2
  refine ⟨q, r, eq, er, ?_⟩
  rcases teller_C p1 with ⟨t, ht, rfl, -⟩ | ⟨hno, -⟩
  · obtain ⟨x0, rfl, b1, b2, b3⟩ := q1 t ht rfl
    obtain ⟨d1, d2⟩ := s1 t ht rfl
    refine ⟨by rw [d2]; rfl, fun _ => ndS_one (TXr_ok rT) ht b1 d1, fun x hx => (by cases hx), B, n, NL, TX, u, fk, ou, fun x hx => ?_, fun x hx => (by cases hx), ⟨rfl, r2, rfl, r4, r5, rfl, rfl, r8⟩⟩
    cases hx
    exact ⟨c1, c2, c3, c4, c5, rfl, c7, rfl, rfl, c10, c11, rfl, rfl, rfl, b2, c16, c17, b3⟩
  · have a1 := q2 hno
    have b1 := s2 hno
    subst a1
    refine ⟨by rw [b1]; rfl, fun z => absurd z (show ¬ (1 : Int32) = 0 by decide), fun x hx => (by cases hx; rfl), B, n, NL, TX, u, fk, ou, fun x hx => (by cases hx), fun x hx => ?_, ⟨rfl, r2, rfl, r4, r5, rfl, rfl, r8⟩⟩
    cases hx
    exact ⟨c1, c2, c3, c4, c5, rfl, c7, rfl, rfl, c10, c11, rfl, rfl, rfl, c15, c16, c17, c18⟩
set_option maxHeartbeats 1000000 in
theorem st_tell {B : Nat → Nat} {n : Nat} {NL : List (List Nat)} {TX : Nat → List (Sy × Nat)} {u fk : Nat} {ou : Option Nat} {m_out : Int32} {t_draft : Nat} {m_tlen : Int32} {a_bytes : Nat → Int32} {m_nsize : Int32} {m_drafted : Int32} {a_letters : Nat → Int32} {a_nlen : Nat → Int32} {t_texts : Nat → Nat} {m_here : Int32} {m_fkind : Int32} {m_fplace : Int32} {m_toks : Int32} {t_types : Nat → Nat} {a_starts : Nat → Int32} {a_tlens : Nat → Int32} {m_heard : Int32} {m_qsize : Int32} {m_wayKnown : Int32} {m_way : Int32} {m_qKnown : Int32} {m_lineKnown : Int32} {m_nodes : Int32} {m_lsize : Int32} {a_tails : Nat → Int32} {a_heads : Nat → Int32} {a_gaps : Nat → Int32} {a_least : Nat → Int32} {m_csize : Int32} {a_ctails : Nat → Int32} {a_cheads : Nat → Int32} {a_cgaps : Nat → Int32} {a_leftOut : Nat → Int32} {a_qrow : Nat → Int32} {a_line : Nat → Int32} {a_tsize : Nat → Int32} {t_word : Nat → Nat} {a_own : Nat → Int32} {a_oth : Nat → Int32} {a_fst : Nat → Int32} {a_snd : Nat → Int32} {a_plc : Nat → Int32} {rm_thrown : Int32} {rm_taped : Int32} {rm_size : Int32} {rm_to : Int32} {rm_from : Int32} {rm_kind : Int32} {rm_number : Int32} {rm_fault : Int32} {rm_place : Int32} {rm_name : Int64} {rm_happenings : Int32} {rm_newHappenings : Int32} {rm_heard : Int32} {rm_outs : Int32} {rm_bounds : Int32} {ra_tape : Nat → Int32} {ra_happened : Nat → Int64} {ra_many : Nat → Int32} {ra_sort : Nat → Int32} {ra_one : Nat → Int32} {ra_other : Nat → Int32} {ra_low : Nat → Int32} {ra_high : Nat → Int32} {ra_begins : Nat → Int32} {ra_out : Nat → Int32} {ra_behind : Nat → Int32} {ra_ahead : Nat → Int32} {ra_most : Nat → Int32} {ra_left : Nat → Int32} {ra_far : Nat → Int32} {ra_quarrel : Nat → Int32} {ra_early : Nat → Int32} {ra_earlyLast : Nat → Int32} (hC : CSt B n NL TX u fk ou m_out t_draft m_tlen a_bytes m_nsize m_drafted a_letters a_nlen t_texts m_here m_fkind m_fplace m_toks t_types a_starts a_tlens m_heard m_qsize m_wayKnown m_way m_qKnown m_lineKnown m_nodes m_lsize a_tails a_heads a_gaps a_least m_csize a_ctails a_cheads a_cgaps a_leftOut a_qrow a_line a_tsize t_word a_own a_oth a_fst a_snd a_plc) (hR : RSt B n NL TX u fk ou rm_thrown rm_taped rm_size rm_to rm_from rm_kind rm_number rm_fault rm_place rm_name rm_happenings rm_newHappenings rm_heard rm_outs rm_bounds ra_tape ra_happened ra_many ra_sort ra_one ra_other ra_low ra_high ra_begins ra_out ra_behind ra_ahead ra_most ra_left ra_far ra_quarrel ra_early ra_earlyLast) (p1 : Int32) : ∃ q r, f_X11_tell t_draft m_tlen a_bytes m_nsize m_drafted a_letters a_nlen t_texts m_here m_fkind m_fplace m_toks t_types a_starts a_tlens m_wayKnown m_qKnown m_lineKnown a_tsize t_word a_own a_oth a_fst a_snd a_plc p1 = some q ∧ f_X12_tell rm_thrown rm_taped rm_size rm_to rm_from rm_kind rm_number rm_fault rm_place rm_name rm_happenings rm_newHappenings ra_tape ra_happened ra_many ra_sort ra_one ra_other ra_low ra_high ra_begins p1 = some r ∧ (kOf (fun x => x.1) (fun x => x.1) 1 0 q).1 = r.2.1 ∧ ((kOf (fun x => x.1) (fun x => x.1) 1 0 q).1 = 0 → (kOf (fun x => x.1) (fun x => x.1) 1 0 q).2 = r.1) ∧ (∀ x, q = .inr x → x.1 = 1) ∧ ∃ (B' : Nat → Nat) (n' : Nat) (NL' : List (List Nat)) (TX' : Nat → List (Sy × Nat)) (u' fk' : Nat) (ou' : Option Nat), (∀ x, q = .inl x → CSt B' n' NL' TX' u' fk' ou' m_out (x.2.1) (x.2.2.1) a_bytes (x.2.2.2.1) (x.2.2.2.2.1) (x.2.2.2.2.2.1) (x.2.2.2.2.2.2.1) (x.2.2.2.2.2.2.2.1) (x.2.2.2.2.2.2.2.2.1) (x.2.2.2.2.2.2.2.2.2.1) (x.2.2.2.2.2.2.2.2.2.2.1) (x.2.2.2.2.2.2.2.2.2.2.2.1) (x.2.2.2.2.2.2.2.2.2.2.2.2.1) (x.2.2.2.2.2.2.2.2.2.2.2.2.2.1) (x.2.2.2.2.2.2.2.2.2.2.2.2.2.2.1) m_heard m_qsize (x.2.2.2.2.2.2.2.2.2.2.2.2.2.2.2.1) m_way (x.2.2.2.2.2.2.2.2.2.2.2.2.2.2.2.2.1) (x.2.2.2.2.2.2.2.2.2.2.2.2.2.2.2.2.2.1) m_nodes m_lsize a_tails a_heads a_gaps a_least m_csize a_ctails a_cheads a_cgaps a_leftOut a_qrow a_line (x.2.2.2.2.2.2.2.2.2.2.2.2.2.2.2.2.2.2.1) (x.2.2.2.2.2.2.2.2.2.2.2.2.2.2.2.2.2.2.2.1) (x.2.2.2.2.2.2.2.2.2.2.2.2.2.2.2.2.2.2.2.2.1) (x.2.2.2.2.2.2.2.2.2.2.2.2.2.2.2.2.2.2.2.2.2.1) (x.2.2.2.2.2.2.2.2.2.2.2.2.2.2.2.2.2.2.2.2.2.2.1) (x.2.2.2.2.2.2.2.2.2.2.2.2.2.2.2.2.2.2.2.2.2.2.2.1) (x.2.2.2.2.2.2.2.2.2.2.2.2.2.2.2.2.2.2.2.2.2.2.2.2)) ∧ (∀ x, q = .inr x → CSt B' n' NL' TX' u' fk' ou' m_out (x.2.1) (x.2.2.1) a_bytes (x.2.2.2.1) (x.2.2.2.2.1) (x.2.2.2.2.2.1) (x.2.2.2.2.2.2.1) (x.2.2.2.2.2.2.2.1) (x.2.2.2.2.2.2.2.2.1) (x.2.2.2.2.2.2.2.2.2.1) (x.2.2.2.2.2.2.2.2.2.2.1) (x.2.2.2.2.2.2.2.2.2.2.2.1) (x.2.2.2.2.2.2.2.2.2.2.2.2.1) (x.2.2.2.2.2.2.2.2.2.2.2.2.2.1) (x.2.2.2.2.2.2.2.2.2.2.2.2.2.2.1) m_heard m_qsize (x.2.2.2.2.2.2.2.2.2.2.2.2.2.2.2.1) m_way (x.2.2.2.2.2.2.2.2.2.2.2.2.2.2.2.2.1) (x.2.2.2.2.2.2.2.2.2.2.2.2.2.2.2.2.2.1) m_nodes m_lsize a_tails a_heads a_gaps a_least m_csize a_ctails a_cheads a_cgaps a_leftOut a_qrow a_line (x.2.2.2.2.2.2.2.2.2.2.2.2.2.2.2.2.2.2.1) (x.2.2.2.2.2.2.2.2.2.2.2.2.2.2.2.2.2.2.2.1) (x.2.2.2.2.2.2.2.2.2.2.2.2.2.2.2.2.2.2.2.2.1) (x.2.2.2.2.2.2.2.2.2.2.2.2.2.2.2.2.2.2.2.2.2.1) (x.2.2.2.2.2.2.2.2.2.2.2.2.2.2.2.2.2.2.2.2.2.2.1) (x.2.2.2.2.2.2.2.2.2.2.2.2.2.2.2.2.2.2.2.2.2.2.2.1) (x.2.2.2.2.2.2.2.2.2.2.2.2.2.2.2.2.2.2.2.2.2.2.2.2)) ∧ RSt B' n' NL' TX' u' fk' ou' (r.2.1) (r.2.2.1) (r.2.2.2.1) (r.2.2.2.2.1) (r.2.2.2.2.2.1) (r.2.2.2.2.2.2.1) (r.2.2.2.2.2.2.2.1) (r.2.2.2.2.2.2.2.2.1) (r.2.2.2.2.2.2.2.2.2.1) (r.2.2.2.2.2.2.2.2.2.2.1) (r.2.2.2.2.2.2.2.2.2.2.2.1) (r.2.2.2.2.2.2.2.2.2.2.2.2.1) rm_heard rm_outs rm_bounds ra_tape (r.2.2.2.2.2.2.2.2.2.2.2.2.2.1) (r.2.2.2.2.2.2.2.2.2.2.2.2.2.2.1) (r.2.2.2.2.2.2.2.2.2.2.2.2.2.2.2.1) (r.2.2.2.2.2.2.2.2.2.2.2.2.2.2.2.2.1) (r.2.2.2.2.2.2.2.2.2.2.2.2.2.2.2.2.2.1) (r.2.2.2.2.2.2.2.2.2.2.2.2.2.2.2.2.2.2.1) (r.2.2.2.2.2.2.2.2.2.2.2.2.2.2.2.2.2.2.2.1) (r.2.2.2.2.2.2.2.2.2.2.2.2.2.2.2.2.2.2.2.2) ra_out ra_behind ra_ahead ra_most ra_left ra_far ra_quarrel ra_early ra_earlyLast := by
  obtain ⟨c1, c2, c3, c4, c5, c6, c7, c8, c9, c10, c11, c12, c13, c14, c15, c16, c17, c18⟩ := hC
  obtain ⟨r1, r2, r3, r4, r5, r6, r7, r8⟩ := hR
  subst c6 c8 c9 c12 c13 c14 r1 r3 r6 r7
  have c20 := c2.1
  have cT := TXC_c c11
  have rT := TXR_r r5
  obtain ⟨q, L, eq, hL, q1, q2⟩ := tell_C c1 c7 c2 c10 c11 m_here (nI fk) m_fplace m_toks t_types a_starts a_tlens m_wayKnown m_qKnown m_lineKnown p1
  obtain ⟨r, er, s1, s2⟩ := tell_R c1 r2 hL c2 r4 r5 rm_thrown rm_size rm_to rm_from rm_kind rm_number (nI fk) rm_place rm_name rm_newHappenings p1
  refine ⟨q, r, eq, er, ?_⟩
  rcases teller_C p1 with ⟨t, ht, rfl, -⟩ | ⟨hno, -⟩
  · obtain ⟨x0, rfl, x1, x2, x3, x4, x5, x6, x7, x8, x9, x10, x11⟩ := q2 t ht rfl
    obtain ⟨d1, d2, d3, d4, d5, d6, d7, d8⟩ := s2 t ht rfl
    refine ⟨by rw [d1]; rfl, fun _ => by show _ = _; rw [d3]; exact x4, fun x hx => (by cases hx), B, 0, tlN (pText B n L 13 [] NL 0) NL, tlT (pText B n L 13 [] NL 0) TX t, u, tlF (pText B n L 13 [] NL 0), ou, fun x hx => ?_, fun x hx => (by cases hx), ⟨d2, fun i hi => absurd hi (Nat.not_lt_zero i), d5, d7, d8, rfl, d4, ?_⟩⟩
    · cases hx
      have hou : ouI (tlN (pText B n L 13 [] NL 0) NL) ou := fun h hh => Nat.lt_of_lt_of_le (c5 h hh) x2.length_le
      have hcache : wayI x0.2.2.2.2.2.2.2.2.2.2.2.2.2.2.2.1 m_way (Feas (tlN (pText B n L 13 [] NL 0) NL).length (Tm (tlT (pText B n L 13 [] NL 0) TX t)) (nI u)) ∧ qkI x0.2.2.2.2.2.2.2.2.2.2.2.2.2.2.2.2.1 m_qsize a_qrow (qT (tlN (pText B n L 13 [] NL 0) NL).length (Tm (tlT (pText B n L 13 [] NL 0) TX t)) (nI u) 6).2 ∧ lnI (tlN (pText B n L 13 [] NL 0) NL).length (Tm (tlT (pText B n L 13 [] NL 0) TX t)) (nI u) x0.2.2.2.2.2.2.2.2.2.2.2.2.2.2.2.2.2.1 a_line := by
        rcases x11 with ⟨ee, hR, y1, y2, y3⟩ | ⟨y1, y2, y3⟩
        · rw [hR, y1, y2, y3]; exact ⟨c15, c16, c17⟩
        · rw [y1, y2, y3]; exact ⟨⟨Or.inl rfl, c15.2.1, fun z => absurd rfl z⟩, ⟨Or.inl rfl, fun z => absurd rfl z⟩, ⟨Or.inl rfl, fun z => absurd rfl z⟩⟩
      exact ⟨by omega, x3, c3, x1, hou, x5, fun i hi => absurd hi (Nat.not_lt_zero i), x6, x7, x8, x10, rfl, x9, rfl, hcache.1, hcache.2.1, hcache.2.2, c18⟩
    · exact ouR_pre c5 x2 r8
  · have a1 := q1 hno
    obtain ⟨d1, d2, d3, d4, d5, d6, d7, d8, d9, d10, d11, d12⟩ := s1 hno
    subst a1
    refine ⟨by rw [d1]; rfl, fun z => absurd z (show ¬ (1 : Int32) = 0 by decide), fun x hx => (by cases hx; rfl), B, n, NL, TX, u, fk, ou, fun x hx => (by cases hx), fun x hx => ?_, ⟨d2, r2, d4, by rw [d5]; exact r4, by rw [d6, d7, d8, d9, d10, d11, d12]; exact r5, rfl, d3, r8⟩⟩
    cases hx
    exact ⟨c1, c2, c3, c4, c5, rfl, c7, rfl, rfl, c10, c11, rfl, rfl, rfl, c15, c16, c17, c18⟩
