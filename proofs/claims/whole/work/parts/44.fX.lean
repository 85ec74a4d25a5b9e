/-! what the throwing methods compute: an answer, or a throw (1: no such index, 2: no such element) -/
def exN : Nat → String
  | 1 => exI
  | _ => exS
def f_X11_sayings (t_texts : Nat → Nat) (a_tsize : Nat → Int32) (p1 : Int32) : Option ((Int32) ⊕ (Nat)) :=
(f_X11_isTeller p1).bind (fun q4 =>
if q4 = 0 then
some (.inr 1)
else
gIn p1 6 (
gN (t_texts (Int32.toNatClampNeg p1)) 7 (
some (.inl (a_tsize (t_texts (Int32.toNatClampNeg p1)))))))
def f_X11_octet_b12 (m_out : Int32) (m_nsize : Int32) (a_letters : Nat → Int32) (a_nlen : Nat → Int32) : Option ((Int32) ⊕ (Nat)) :=
some (.inr 2)
def f_X11_octet (m_out : Int32) (m_nsize : Int32) (a_letters : Nat → Int32) (a_nlen : Nat → Int32) (p1 : Int32) : Option ((Int32) ⊕ (Nat)) :=
if p1 < 0 then
f_X11_octet_b12 m_out m_nsize a_letters a_nlen
else
(f_X11_outLength m_out m_nsize a_nlen).bind (fun q4 =>
if p1 < q4 then
(f_X3_letter a_letters m_out p1).bind (fun q6 =>
some (.inl q6))
else
f_X11_octet_b12 m_out m_nsize a_letters a_nlen)
def f_X11_saying (t_texts : Nat → Nat) (a_tsize : Nat → Int32) (t_word : Nat → Nat) (a_own : Nat → Int32) (a_oth : Nat → Int32) (a_fst : Nat → Int32) (a_snd : Nat → Int32) (a_plc : Nat → Int32) (p1 : Int32) (p2 : Int32) (p3 : Int32) : Option ((Int32) ⊕ (Nat)) :=
(f_X11_isTeller p1).bind (fun q16 =>
if q16 = 0 then
some (.inr 1)
else
gIn p1 6 (
gN (t_texts (Int32.toNatClampNeg p1)) 7 (
(f_X8_has a_tsize (t_texts (Int32.toNatClampNeg p1)) p2).bind (fun q20 =>
if q20 = 0 then
some (.inr 2)
else
gIn p1 6 (
gN (t_texts (Int32.toNatClampNeg p1)) 7 (
gIn p2 12 (
if p3 = 0 then
gN (12 * (t_texts (Int32.toNatClampNeg p1)) + Int32.toNatClampNeg p2) 84 (
gN (t_word (12 * (t_texts (Int32.toNatClampNeg p1)) + Int32.toNatClampNeg p2)) 13 (
some (.inl (tkK (t_word (12 * (t_texts (Int32.toNatClampNeg p1)) + Int32.toNatClampNeg p2))))))
else
if p3 = 1 then
gN (12 * (t_texts (Int32.toNatClampNeg p1)) + Int32.toNatClampNeg p2) 84 (
some (.inl (a_own (12 * (t_texts (Int32.toNatClampNeg p1)) + Int32.toNatClampNeg p2))))
else
if p3 = 2 then
gN (12 * (t_texts (Int32.toNatClampNeg p1)) + Int32.toNatClampNeg p2) 84 (
some (.inl (a_oth (12 * (t_texts (Int32.toNatClampNeg p1)) + Int32.toNatClampNeg p2))))
else
if p3 = 3 then
gN (12 * (t_texts (Int32.toNatClampNeg p1)) + Int32.toNatClampNeg p2) 84 (
some (.inl (a_fst (12 * (t_texts (Int32.toNatClampNeg p1)) + Int32.toNatClampNeg p2))))
else
if p3 = 4 then
gN (12 * (t_texts (Int32.toNatClampNeg p1)) + Int32.toNatClampNeg p2) 84 (
some (.inl (a_snd (12 * (t_texts (Int32.toNatClampNeg p1)) + Int32.toNatClampNeg p2))))
else
if p3 = 5 then
gN (12 * (t_texts (Int32.toNatClampNeg p1)) + Int32.toNatClampNeg p2) 84 (
some (.inl (a_plc (12 * (t_texts (Int32.toNatClampNeg p1)) + Int32.toNatClampNeg p2))))
else
some (.inr 2))))))))
def f_X11_needless (m_nsize : Int32) (t_texts : Nat → Nat) (m_heard : Int32) (m_wayKnown : Int32) (m_way : Int32) (m_nodes : Int32) (m_lsize : Int32) (a_tails : Nat → Int32) (a_heads : Nat → Int32) (a_gaps : Nat → Int32) (a_least : Nat → Int32) (m_csize : Int32) (a_ctails : Nat → Int32) (a_cheads : Nat → Int32) (a_cgaps : Nat → Int32) (a_leftOut : Nat → Int32) (a_tsize : Nat → Int32) (t_word : Nat → Nat) (a_own : Nat → Int32) (a_oth : Nat → Int32) (a_fst : Nat → Int32) (a_snd : Nat → Int32) (p1 : Int32) (p2 : Int32) : Option ((Int32 × Int32 × Int32 × Int32 × Int32 × (Nat → Int32) × (Nat → Int32) × (Nat → Int32) × (Nat → Int32) × Int32 × (Nat → Int32) × (Nat → Int32) × (Nat → Int32) × (Nat → Int32)) ⊕ (Nat × Int32 × Int32 × Int32 × Int32 × (Nat → Int32) × (Nat → Int32) × (Nat → Int32) × (Nat → Int32) × Int32 × (Nat → Int32) × (Nat → Int32) × (Nat → Int32) × (Nat → Int32))) :=
(f_X11_isTeller p1).bind (fun q8 =>
if q8 = 0 then
some (.inr (1, m_wayKnown, m_way, m_nodes, m_lsize, a_tails, a_heads, a_gaps, a_least, m_csize, a_ctails, a_cheads, a_cgaps, a_leftOut))
else
gIn p1 6 (
gN (t_texts (Int32.toNatClampNeg p1)) 7 (
(f_X8_has a_tsize (t_texts (Int32.toNatClampNeg p1)) p2).bind (fun q12 =>
if q12 = 0 then
some (.inl ((-1), m_wayKnown, m_way, m_nodes, m_lsize, a_tails, a_heads, a_gaps, a_least, m_csize, a_ctails, a_cheads, a_cgaps, a_leftOut))
else
(f_X1_hears m_heard p1).bind (fun q14 =>
if q14 = 0 then
some (.inl ((-1), m_wayKnown, m_way, m_nodes, m_lsize, a_tails, a_heads, a_gaps, a_least, m_csize, a_ctails, a_cheads, a_cgaps, a_leftOut))
else
(f_X1_hasWay m_nsize t_texts m_heard m_wayKnown m_way m_nodes m_lsize a_tails a_heads a_gaps a_least a_leftOut a_tsize t_word a_own a_oth a_fst a_snd).bind (fun q16 =>
if q16.1 = 0 then
some (.inl ((-1), q16.2.1, q16.2.2.1, q16.2.2.2.1, q16.2.2.2.2.1, q16.2.2.2.2.2.1, q16.2.2.2.2.2.2.1, q16.2.2.2.2.2.2.2.1, q16.2.2.2.2.2.2.2.2, m_csize, a_ctails, a_cheads, a_cgaps, a_leftOut))
else
(f_X1_followsFromOthers m_nsize t_texts m_heard q16.2.2.2.1 q16.2.2.2.2.1 q16.2.2.2.2.2.1 q16.2.2.2.2.2.2.1 q16.2.2.2.2.2.2.2.1 q16.2.2.2.2.2.2.2.2 m_csize a_ctails a_cheads a_cgaps a_leftOut a_tsize t_word a_own a_oth a_fst a_snd p1 p2).bind (fun q18 =>
if q18.1 = 0 then
some (.inl (0, q16.2.1, q16.2.2.1, q18.2.1, q18.2.2.1, q18.2.2.2.1, q18.2.2.2.2.1, q18.2.2.2.2.2.1, q18.2.2.2.2.2.2.1, q18.2.2.2.2.2.2.2.1, q18.2.2.2.2.2.2.2.2.1, q18.2.2.2.2.2.2.2.2.2.1, q18.2.2.2.2.2.2.2.2.2.2.1, q18.2.2.2.2.2.2.2.2.2.2.2))
else
some (.inl (1, q16.2.1, q16.2.2.1, q18.2.1, q18.2.2.1, q18.2.2.2.1, q18.2.2.2.2.1, q18.2.2.2.2.2.1, q18.2.2.2.2.2.2.1, q18.2.2.2.2.2.2.2.1, q18.2.2.2.2.2.2.2.2.1, q18.2.2.2.2.2.2.2.2.2.1, q18.2.2.2.2.2.2.2.2.2.2.1, q18.2.2.2.2.2.2.2.2.2.2.2)))))))))
def f_X11_between_b22 (m_nsize : Int32) (t_texts : Nat → Nat) (m_heard : Int32) (m_wayKnown : Int32) (m_way : Int32) (m_nodes : Int32) (m_lsize : Int32) (a_tails : Nat → Int32) (a_heads : Nat → Int32) (a_gaps : Nat → Int32) (a_least : Nat → Int32) (a_leftOut : Nat → Int32) (a_tsize : Nat → Int32) (t_word : Nat → Nat) (a_own : Nat → Int32) (a_oth : Nat → Int32) (a_fst : Nat → Int32) (a_snd : Nat → Int32) : Option ((Int32 × Int32 × Int32 × Int32 × Int32 × (Nat → Int32) × (Nat → Int32) × (Nat → Int32) × (Nat → Int32)) ⊕ (Nat × Int32 × Int32 × Int32 × Int32 × (Nat → Int32) × (Nat → Int32) × (Nat → Int32) × (Nat → Int32))) :=
some (.inr (2, m_wayKnown, m_way, m_nodes, m_lsize, a_tails, a_heads, a_gaps, a_least))
def f_X11_between (m_nsize : Int32) (t_texts : Nat → Nat) (m_heard : Int32) (m_wayKnown : Int32) (m_way : Int32) (m_nodes : Int32) (m_lsize : Int32) (a_tails : Nat → Int32) (a_heads : Nat → Int32) (a_gaps : Nat → Int32) (a_least : Nat → Int32) (a_leftOut : Nat → Int32) (a_tsize : Nat → Int32) (t_word : Nat → Nat) (a_own : Nat → Int32) (a_oth : Nat → Int32) (a_fst : Nat → Int32) (a_snd : Nat → Int32) (p1 : Int32) (p2 : Int32) (p3 : Int32) : Option ((Int32 × Int32 × Int32 × Int32 × Int32 × (Nat → Int32) × (Nat → Int32) × (Nat → Int32) × (Nat → Int32)) ⊕ (Nat × Int32 × Int32 × Int32 × Int32 × (Nat → Int32) × (Nat → Int32) × (Nat → Int32) × (Nat → Int32))) :=
(f_X3_has m_nsize p1).bind (fun q10 =>
if q10 = 0 then
f_X11_between_b22 m_nsize t_texts m_heard m_wayKnown m_way m_nodes m_lsize a_tails a_heads a_gaps a_least a_leftOut a_tsize t_word a_own a_oth a_fst a_snd
else
(f_X3_has m_nsize p2).bind (fun q12 =>
if q12 = 0 then
f_X11_between_b22 m_nsize t_texts m_heard m_wayKnown m_way m_nodes m_lsize a_tails a_heads a_gaps a_least a_leftOut a_tsize t_word a_own a_oth a_fst a_snd
else
(f_X1_hasWay m_nsize t_texts m_heard m_wayKnown m_way m_nodes m_lsize a_tails a_heads a_gaps a_least a_leftOut a_tsize t_word a_own a_oth a_fst a_snd).bind (fun q14 =>
if q14.1 = 0 then
some (.inr (2, q14.2.1, q14.2.2.1, q14.2.2.2.1, q14.2.2.2.2.1, q14.2.2.2.2.2.1, q14.2.2.2.2.2.2.1, q14.2.2.2.2.2.2.2.1, q14.2.2.2.2.2.2.2.2))
else
if p3 = 0 then
(f_X4_lastOf p1).bind (fun q17 =>
(f_X4_firstOf p2).bind (fun q18 =>
(f_X1_least m_nsize t_texts m_heard q14.2.2.2.1 q14.2.2.2.2.1 q14.2.2.2.2.2.1 q14.2.2.2.2.2.2.1 q14.2.2.2.2.2.2.2.1 q14.2.2.2.2.2.2.2.2 a_leftOut a_tsize t_word a_own a_oth a_fst a_snd q17 q18).bind (fun q19 =>
some (.inl (q19.1, q14.2.1, q14.2.2.1, q19.2.1, q19.2.2.1, q19.2.2.2.1, q19.2.2.2.2.1, q19.2.2.2.2.2.1, q19.2.2.2.2.2.2)))))
else
(f_X4_lastOf p1).bind (fun q20 =>
(f_X4_firstOf p2).bind (fun q21 =>
(f_X1_greatest m_nsize t_texts m_heard q14.2.2.2.1 q14.2.2.2.2.1 q14.2.2.2.2.2.1 q14.2.2.2.2.2.2.1 q14.2.2.2.2.2.2.2.1 q14.2.2.2.2.2.2.2.2 a_leftOut a_tsize t_word a_own a_oth a_fst a_snd q20 q21).bind (fun q22 =>
some (.inl (q22.1, q14.2.1, q14.2.2.1, q22.2.1, q22.2.2.1, q22.2.2.2.1, q22.2.2.2.2.1, q22.2.2.2.2.2.1, q22.2.2.2.2.2.2))))))))
def f_X11_tell (t_draft : Nat) (m_tlen : Int32) (a_bytes : Nat → Int32) (m_nsize : Int32) (m_drafted : Int32) (a_letters : Nat → Int32) (a_nlen : Nat → Int32) (t_texts : Nat → Nat) (m_here : Int32) (m_fkind : Int32) (m_fplace : Int32) (m_toks : Int32) (t_types : Nat → Nat) (a_starts : Nat → Int32) (a_tlens : Nat → Int32) (m_wayKnown : Int32) (m_qKnown : Int32) (m_lineKnown : Int32) (a_tsize : Nat → Int32) (t_word : Nat → Nat) (a_own : Nat → Int32) (a_oth : Nat → Int32) (a_fst : Nat → Int32) (a_snd : Nat → Int32) (a_plc : Nat → Int32) (p1 : Int32) : Option ((Int32 × Nat × Int32 × Int32 × Int32 × (Nat → Int32) × (Nat → Int32) × (Nat → Nat) × Int32 × Int32 × Int32 × Int32 × (Nat → Nat) × (Nat → Int32) × (Nat → Int32) × Int32 × Int32 × Int32 × (Nat → Int32) × (Nat → Nat) × (Nat → Int32) × (Nat → Int32) × (Nat → Int32) × (Nat → Int32) × (Nat → Int32)) ⊕ (Nat × Nat × Int32 × Int32 × Int32 × (Nat → Int32) × (Nat → Int32) × (Nat → Nat) × Int32 × Int32 × Int32 × Int32 × (Nat → Nat) × (Nat → Int32) × (Nat → Int32) × Int32 × Int32 × Int32 × (Nat → Int32) × (Nat → Nat) × (Nat → Int32) × (Nat → Int32) × (Nat → Int32) × (Nat → Int32) × (Nat → Int32))) :=
(f_X11_isTeller p1).bind (fun q9 =>
if q9 = 0 then
some (.inr (1, t_draft, m_tlen, m_nsize, m_drafted, a_letters, a_nlen, t_texts, m_here, m_fkind, m_fplace, m_toks, t_types, a_starts, a_tlens, m_wayKnown, m_qKnown, m_lineKnown, a_tsize, t_word, a_own, a_oth, a_fst, a_snd, a_plc))
else
(f_X5_read m_tlen a_bytes m_nsize m_drafted a_letters a_nlen m_here m_fkind m_fplace m_toks t_types a_starts a_tlens a_tsize t_word a_own a_oth a_fst a_snd a_plc t_draft).bind (fun q11 =>
if q11.1 = 0 then
some (.inl ((-1) - q11.2.2.2.2.2.2.2.1, t_draft, 0, q11.2.1, q11.2.2.1, q11.2.2.2.1, q11.2.2.2.2.1, t_texts, q11.2.2.2.2.2.1, q11.2.2.2.2.2.2.1, q11.2.2.2.2.2.2.2.1, q11.2.2.2.2.2.2.2.2.1, q11.2.2.2.2.2.2.2.2.2.1, q11.2.2.2.2.2.2.2.2.2.2.1, q11.2.2.2.2.2.2.2.2.2.2.2.1, m_wayKnown, m_qKnown, m_lineKnown, q11.2.2.2.2.2.2.2.2.2.2.2.2.1, q11.2.2.2.2.2.2.2.2.2.2.2.2.2.1, q11.2.2.2.2.2.2.2.2.2.2.2.2.2.2.1, q11.2.2.2.2.2.2.2.2.2.2.2.2.2.2.2.1, q11.2.2.2.2.2.2.2.2.2.2.2.2.2.2.2.2.1, q11.2.2.2.2.2.2.2.2.2.2.2.2.2.2.2.2.2.1, q11.2.2.2.2.2.2.2.2.2.2.2.2.2.2.2.2.2.2))
else
gIn p1 6 (
gN t_draft 7 (
gIn p1 6 (
(f_X1_forget m_wayKnown m_qKnown m_lineKnown).bind (fun q16 =>
gIn p1 6 (
gN ((va_up t_texts (Int32.toNatClampNeg p1) t_draft) (Int32.toNatClampNeg p1)) 7 (
some (.inl (q11.2.2.2.2.2.2.2.2.2.2.2.2.1 ((va_up t_texts (Int32.toNatClampNeg p1) t_draft) (Int32.toNatClampNeg p1)), t_texts (Int32.toNatClampNeg p1), 0, q11.2.1, q11.2.2.1, q11.2.2.2.1, q11.2.2.2.2.1, va_up t_texts (Int32.toNatClampNeg p1) t_draft, q11.2.2.2.2.2.1, q11.2.2.2.2.2.2.1, q11.2.2.2.2.2.2.2.1, q11.2.2.2.2.2.2.2.2.1, q11.2.2.2.2.2.2.2.2.2.1, q11.2.2.2.2.2.2.2.2.2.2.1, q11.2.2.2.2.2.2.2.2.2.2.2.1, q16.1, q16.2.1, q16.2.2, q11.2.2.2.2.2.2.2.2.2.2.2.2.1, q11.2.2.2.2.2.2.2.2.2.2.2.2.2.1, q11.2.2.2.2.2.2.2.2.2.2.2.2.2.2.1, q11.2.2.2.2.2.2.2.2.2.2.2.2.2.2.2.1, q11.2.2.2.2.2.2.2.2.2.2.2.2.2.2.2.2.1, q11.2.2.2.2.2.2.2.2.2.2.2.2.2.2.2.2.2.1, q11.2.2.2.2.2.2.2.2.2.2.2.2.2.2.2.2.2.2))))))))))
