/-! what the reference computes, by program out of its bytecode -/
def f_X12_thrown (m_thrown : Int32) : Option (Int32) :=
some m_thrown
def f_X12_refuse (m_thrown : Int32) (p1 : Int32) : Option (Int32 × Int32) :=
some (0, p1)
def f_X12_come_l3 (u1 : Int32) (sg : Int32 × Int32 × (Nat → Int32)) : Option ((Int32 × Int32 × (Nat → Int32)) ⊕ (Int32 × Int32 × (Nat → Int32))) :=
if sg.1 < 0 then
some (.inr (sg.1, sg.2.1, sg.2.2))
else
gIn sg.2.1 440 (
some (.inl (sg.1 + (-8), sg.2.1 + 1, upd sg.2.2 (Int32.toNatClampNeg sg.2.1) (((u1.toUInt32 >>> (Int32.toUInt32 sg.1 &&& Int32.toUInt32 31)).toInt32) &&& 255))))
def f_X12_come (m_taped : Int32) (a_tape : Nat → Int32) (p1 : Int32) : Option (Int32 × (Nat → Int32)) :=
(lp (f_X12_come_l3 p1) gFU (24, m_taped, a_tape)).bind (fun q4 =>
some (q4.2.1, q4.2.2))
def f_X12_feed (m_thrown : Int32) (m_taped : Int32) (a_tape : Nat → Int32) (p1 : Int32) (p2 : Int32) (p3 : Int32) (p4 : Int32) (p5 : Int32) : Option (Int32 × Int32 × Int32 × (Nat → Int32)) :=
if (m_taped + 20) ≤ 440 then
(f_X12_come m_taped a_tape p1).bind (fun q7 =>
(f_X12_come q7.1 q7.2 p2).bind (fun q8 =>
(f_X12_come q8.1 q8.2 p3).bind (fun q9 =>
(f_X12_come q9.1 q9.2 p4).bind (fun q10 =>
(f_X12_come q10.1 q10.2 p5).bind (fun q11 =>
some (q11.1, 0, q11.1, q11.2))))))
else
some ((-1), 0, m_taped, a_tape)
def f_X12_end (m_thrown : Int32) (m_taped : Int32) (p1 : Int32) : Option (Int32 × Int32 × Int32) :=
if p1 < 0 then
some (0, 0, m_taped)
else
if p1 ≤ m_taped then
some (1, 0, p1)
else
some (0, 0, m_taped)
def f_X12_byteAt (a_tape : Nat → Int32) (p1 : Int32) (p2 : Int32) : Option (Int32) :=
if p2 ≤ p1 then
some 0
else
gIn p1 440 (
some (a_tape (Int32.toNatClampNeg p1)))
def f_X12_isDigit (p0 : Int32) : Option (Int32) :=
if p0 < 48 then
some 0
else
if 57 < p0 then
some 0
else
some 1
def f_X12_isLetter (p0 : Int32) : Option (Int32) :=
if p0 < 97 then
some 0
else
if 122 < p0 then
some 0
else
some 1
def f_X12_blanks_b39 (m_size : Int32) (m_to : Int32) (a_tape : Nat → Int32) : Option ((Int32) ⊕ (Int32)) :=
some (.inl (m_to + 1))
def f_X12_blanks_l0 (m_size : Int32) (a_tape : Nat → Int32) (sg : Int32) : Option ((Int32) ⊕ (Int32)) :=
if m_size ≤ sg then
some (.inr sg)
else
gIn sg 440 (
if (a_tape (Int32.toNatClampNeg sg)) = 32 then
f_X12_blanks_b39 m_size sg a_tape
else
gIn sg 440 (
if (a_tape (Int32.toNatClampNeg sg)) = 10 then
f_X12_blanks_b39 m_size sg a_tape
else
some (.inr sg)))
def f_X12_blanks (m_size : Int32) (m_to : Int32) (a_tape : Nat → Int32) : Option (Int32) :=
(lp (f_X12_blanks_l0 m_size a_tape) gFU m_to).bind (fun q8 =>
some q8)
def f_X12_readWord_b151 (m_size : Int32) (m_to : Int32) (m_from : Int32) (m_kind : Int32) (m_number : Int32) (m_name : Int64) (a_tape : Nat → Int32) (u1 : Int32) (u2 : Int32) : Option ((Int32 × Int32 × Int32 × Int64) ⊕ (Int32 × Int32 × Int32 × Int64)) :=
some (.inl (u2, m_to + 1, m_number, m_name))
def f_X12_readWord_b122 (m_size : Int32) (m_to : Int32) (m_from : Int32) (m_kind : Int32) (m_number : Int32) (m_name : Int64) (a_tape : Nat → Int32) (u1 : Int32) (u2 : Int32) (u3 : Int32) : Option ((Int32 × Int32 × Int32 × Int64) ⊕ (Int32 × Int32 × Int32 × Int64)) :=
if 4 ≤ (m_to - m_from) then
f_X12_readWord_b151 m_size m_to m_from m_kind m_number m_name a_tape u1 u2
else
f_X12_readWord_b151 m_size m_to m_from m_kind (((10 * m_number) + u3) - 48) m_name a_tape u1 u2
def f_X12_readWord_b88 (m_size : Int32) (m_to : Int32) (m_from : Int32) (m_kind : Int32) (m_number : Int32) (m_name : Int64) (a_tape : Nat → Int32) (u1 : Int32) (u3 : Int32) (w0 : Int32) : Option ((Int32 × Int32 × Int32 × Int64) ⊕ (Int32 × Int32 × Int32 × Int64)) :=
if 8 ≤ (m_to - m_from) then
f_X12_readWord_b122 m_size m_to m_from m_kind m_number m_name a_tape u1 w0 u3
else
f_X12_readWord_b122 m_size m_to m_from m_kind m_number (((27 * m_name) + u3.toInt64) - 96) a_tape u1 w0 u3
def f_X12_readWord_b87 (m_size : Int32) (m_to : Int32) (m_from : Int32) (m_kind : Int32) (m_number : Int32) (m_name : Int64) (a_tape : Nat → Int32) (u1 : Int32) (u3 : Int32) : Option ((Int32 × Int32 × Int32 × Int64) ⊕ (Int32 × Int32 × Int32 × Int64)) :=
f_X12_readWord_b88 m_size m_to m_from m_kind m_number m_name a_tape u1 u3 0
def f_X12_readWord_b61 (m_size : Int32) (m_to : Int32) (m_from : Int32) (m_kind : Int32) (m_number : Int32) (m_name : Int64) (a_tape : Nat → Int32) (u1 : Int32) (u2 : Int32) : Option ((Int32 × Int32 × Int32 × Int64) ⊕ (Int32 × Int32 × Int32 × Int64)) :=
gIn m_to 440 (
if u2 = 0 then
f_X12_readWord_b87 m_size m_to m_from m_kind m_number m_name a_tape u1 (a_tape (Int32.toNatClampNeg m_to))
else
(f_X12_isLetter (a_tape (Int32.toNatClampNeg m_to))).bind (fun q18 =>
if q18 = u1 then
f_X12_readWord_b88 m_size m_to m_from m_kind m_number m_name a_tape u1 (a_tape (Int32.toNatClampNeg m_to)) 1
else
f_X12_readWord_b87 m_size m_to m_from m_kind m_number m_name a_tape u1 (a_tape (Int32.toNatClampNeg m_to))))
def f_X12_readWord_l25 (m_size : Int32) (m_from : Int32) (m_kind : Int32) (a_tape : Nat → Int32) (u1 : Int32) (sg : Int32 × Int32 × Int32 × Int64) : Option ((Int32 × Int32 × Int32 × Int64) ⊕ (Int32 × Int32 × Int32 × Int64)) :=
(f_X12_byteAt a_tape sg.2.1 m_size).bind (fun q11 =>
(f_X12_isLetter q11).bind (fun q12 =>
if q12 = 0 then
(f_X12_byteAt a_tape sg.2.1 m_size).bind (fun q20 =>
(f_X12_isDigit q20).bind (fun q21 =>
if q21 = 0 then
some (.inr (sg.1, sg.2.1, sg.2.2.1, sg.2.2.2))
else
f_X12_readWord_b61 m_size sg.2.1 m_from m_kind sg.2.2.1 sg.2.2.2 a_tape u1 sg.1))
else
f_X12_readWord_b61 m_size sg.2.1 m_from m_kind sg.2.2.1 sg.2.2.2 a_tape u1 sg.1))
def f_X12_readWord_b204 (m_size : Int32) (m_to : Int32) (m_from : Int32) (m_kind : Int32) (m_number : Int32) (m_name : Int64) (a_tape : Nat → Int32) (w0 : Int32) : Option (Int32 × Int32 × Int32 × Int64) :=
some (m_to, w0, m_number, m_name)
def f_X12_readWord_b188 (m_size : Int32) (m_to : Int32) (m_from : Int32) (m_kind : Int32) (m_number : Int32) (m_name : Int64) (a_tape : Nat → Int32) (u1 : Int32) (w0 : Int32) (w1 : Int32) : Option (Int32 × Int32 × Int32 × Int64) :=
if w1 ≤ w0 then
if u1 = 0 then
f_X12_readWord_b204 m_size m_to m_from m_kind m_number m_name a_tape 3
else
f_X12_readWord_b204 m_size m_to m_from m_kind m_number m_name a_tape 2
else
f_X12_readWord_b204 m_size m_to m_from m_kind m_number m_name a_tape 1
def f_X12_readWord (m_size : Int32) (m_to : Int32) (m_from : Int32) (m_kind : Int32) (m_number : Int32) (m_name : Int64) (a_tape : Nat → Int32) : Option (Int32 × Int32 × Int32 × Int64) :=
gIn m_to 440 (
(f_X12_isLetter (a_tape (Int32.toNatClampNeg m_to))).bind (fun q10 =>
(lp (f_X12_readWord_l25 m_size m_from m_kind a_tape q10) gFU (1, m_to, 0, 0)).bind (fun q23 =>
if q23.1 = 0 then
f_X12_readWord_b204 m_size q23.2.1 m_from m_kind q23.2.2.1 q23.2.2.2 a_tape 1
else
if q10 = 0 then
f_X12_readWord_b188 m_size q23.2.1 m_from m_kind q23.2.2.1 q23.2.2.2 a_tape q10 4 (q23.2.1 - m_from)
else
f_X12_readWord_b188 m_size q23.2.1 m_from m_kind q23.2.2.1 q23.2.2.2 a_tape q10 8 (q23.2.1 - m_from))))
def f_X12_go_b86 (m_size : Int32) (m_to : Int32) (m_from : Int32) (m_kind : Int32) (m_number : Int32) (m_name : Int64) (a_tape : Nat → Int32) : Option (Int32 × Int32 × Int32 × Int32 × Int64) :=
(f_X12_readWord m_size m_to m_from m_kind m_number m_name a_tape).bind (fun q12 =>
some (q12.1, m_from, q12.2.1, q12.2.2.1, q12.2.2.2))
def f_X12_go_b103 (m_size : Int32) (m_to : Int32) (m_from : Int32) (m_kind : Int32) (m_number : Int32) (m_name : Int64) (a_tape : Nat → Int32) (w0 : Int32) : Option (Int32 × Int32 × Int32 × Int32 × Int64) :=
some (m_to + 1, m_from, w0, m_number, m_name)
def f_X12_go_b45 (m_size : Int32) (m_to : Int32) (m_from : Int32) (m_kind : Int32) (m_number : Int32) (m_name : Int64) (a_tape : Nat → Int32) : Option (Int32 × Int32 × Int32 × Int32 × Int64) :=
if m_to < m_size then
gIn m_to 440 (
(f_X12_isLetter (a_tape (Int32.toNatClampNeg m_to))).bind (fun q10 =>
if q10 = 0 then
(f_X12_isDigit (a_tape (Int32.toNatClampNeg m_to))).bind (fun q13 =>
if q13 = 0 then
if (a_tape (Int32.toNatClampNeg m_to)) = 59 then
f_X12_go_b103 m_size m_to m_from m_kind m_number m_name a_tape 4
else
f_X12_go_b103 m_size m_to m_from m_kind m_number m_name a_tape 1
else
f_X12_go_b86 m_size m_to m_from m_kind m_number m_name a_tape)
else
f_X12_go_b86 m_size m_to m_from m_kind m_number m_name a_tape))
else
some (m_to, m_from, 0, m_number, m_name)
def f_X12_go (m_size : Int32) (m_to : Int32) (m_from : Int32) (m_kind : Int32) (m_number : Int32) (m_name : Int64) (a_tape : Nat → Int32) : Option (Int32 × Int32 × Int32 × Int32 × Int64) :=
(f_X12_blanks m_size m_to a_tape).bind (fun q6 =>
if m_size ≤ 400 then
f_X12_go_b45 m_size q6 q6 m_kind m_number m_name a_tape
else
if q6 < 400 then
f_X12_go_b45 m_size q6 q6 m_kind m_number m_name a_tape
else
some (q6, 400, 1, m_number, m_name))
def f_X12_isKey (m_kind : Int32) (m_name : Int64) (p1 : Int64) : Option (Int32) :=
if m_kind = 2 then
if (lg_cmp m_name p1) = 0 then
some 1
else
some 0
else
some 0
def f_X12_isFree (m_kind : Int32) (m_name : Int64) : Option (Int32) :=
if m_kind = 2 then
if (lg_cmp m_name 419) = 0 then
some 0
else
if (lg_cmp m_name 131638) = 0 then
some 0
else
if (lg_cmp m_name 555) = 0 then
some 0
else
if (lg_cmp m_name 79) = 0 then
some 0
else
if (lg_cmp m_name 10284818) = 0 then
some 0
else
if (lg_cmp m_name 6411385) = 0 then
some 0
else
if (lg_cmp m_name 31484543) = 0 then
some 0
else
if (lg_cmp m_name 12387497) = 0 then
some 0
else
some 1
else
some 0
def f_X12_bad_b14 (m_from : Int32) (m_kind : Int32) (m_fault : Int32) (m_place : Int32) (w0 : Int32) : Option (Int32 × Int32 × Int32) :=
some (0, w0, m_from)
def f_X12_bad (m_from : Int32) (m_kind : Int32) (m_fault : Int32) (m_place : Int32) (p1 : Int32) : Option (Int32 × Int32 × Int32) :=
if m_kind = 1 then
f_X12_bad_b14 m_from m_kind m_fault m_place 1
else
f_X12_bad_b14 m_from m_kind m_fault m_place p1
def f_X12_find_l2 (m_name : Int64) (a_happened : Nat → Int64) (u1 : Int32) (sg : Int32) : Option ((Int32) ⊕ ((Int32) ⊕ (Int32))) :=
if u1 ≤ sg then
some (.inr (.inl sg))
else
gIn sg 20 (
if (lg_cmp (a_happened (Int32.toNatClampNeg sg)) m_name) = 0 then
some (.inr (.inr sg))
else
some (.inl (sg + 1)))
def f_X12_find (m_name : Int64) (a_happened : Nat → Int64) (p1 : Int32) : Option (Int32) :=
(lp (f_X12_find_l2 m_name a_happened p1) gFU 0).bind (fun q5 => Sum.elim (fun t6 =>
some (-1)) (fun r7 => some r7) q5)
def f_X12_readHappening_b89 (m_size : Int32) (m_to : Int32) (m_from : Int32) (m_kind : Int32) (m_number : Int32) (m_fault : Int32) (m_place : Int32) (m_name : Int64) (m_newHappenings : Int32) (a_tape : Nat → Int32) (a_happened : Nat → Int64) (u2 : Int32) : Option (Int32 × Int32 × Int32 × Int32 × Int32 × Int32 × Int32 × Int64 × Int32 × (Nat → Int64)) :=
(f_X12_go m_size m_to m_from m_kind m_number m_name a_tape).bind (fun q13 =>
some (u2, q13.1, q13.2.1, q13.2.2.1, q13.2.2.2.1, m_fault, m_place, q13.2.2.2.2, m_newHappenings, a_happened))
def f_X12_readHappening_b42 (m_size : Int32) (m_to : Int32) (m_from : Int32) (m_kind : Int32) (m_number : Int32) (m_fault : Int32) (m_place : Int32) (m_name : Int64) (m_newHappenings : Int32) (a_tape : Nat → Int32) (a_happened : Nat → Int64) (u2 : Int32) : Option (Int32 × Int32 × Int32 × Int32 × Int32 × Int32 × Int32 × Int64 × Int32 × (Nat → Int64)) :=
if u2 = (-1) then
if m_newHappenings = 20 then
(f_X12_bad m_from m_kind m_fault m_place 4).bind (fun q16 =>
some ((-1), m_to, m_from, m_kind, m_number, q16.2.1, q16.2.2, m_name, m_newHappenings, a_happened))
else
gIn m_newHappenings 20 (
f_X12_readHappening_b89 m_size m_to m_from m_kind m_number m_fault m_place m_name (m_newHappenings + 1) a_tape (vp_updL a_happened (Int32.toNatClampNeg m_newHappenings) m_name) m_newHappenings)
else
f_X12_readHappening_b89 m_size m_to m_from m_kind m_number m_fault m_place m_name m_newHappenings a_tape a_happened u2
def f_X12_readHappening (m_size : Int32) (m_to : Int32) (m_from : Int32) (m_kind : Int32) (m_number : Int32) (m_fault : Int32) (m_place : Int32) (m_name : Int64) (m_newHappenings : Int32) (a_tape : Nat → Int32) (a_happened : Nat → Int64) (p1 : Int32) : Option (Int32 × Int32 × Int32 × Int32 × Int32 × Int32 × Int32 × Int64 × Int32 × (Nat → Int64)) :=
(f_X12_isFree m_kind m_name).bind (fun q8 =>
if q8 = 0 then
(f_X12_bad m_from m_kind m_fault m_place 1).bind (fun q19 =>
some ((-1), m_to, m_from, m_kind, m_number, q19.2.1, q19.2.2, m_name, m_newHappenings, a_happened))
else
(f_X12_find m_name a_happened m_newHappenings).bind (fun q10 =>
if q10 = (-1) then
f_X12_readHappening_b42 m_size m_to m_from m_kind m_number m_fault m_place m_name m_newHappenings a_tape a_happened q10
else
if q10 = p1 then
(f_X12_bad m_from m_kind m_fault m_place 3).bind (fun q18 =>
some ((-1), m_to, m_from, m_kind, m_number, q18.2.1, q18.2.2, m_name, m_newHappenings, a_happened))
else
f_X12_readHappening_b42 m_size m_to m_from m_kind m_number m_fault m_place m_name m_newHappenings a_tape a_happened q10))
def f_X12_readNumber (m_size : Int32) (m_to : Int32) (m_from : Int32) (m_kind : Int32) (m_number : Int32) (m_fault : Int32) (m_place : Int32) (m_name : Int64) (a_tape : Nat → Int32) (p1 : Int32) : Option (Int32 × Int32 × Int32 × Int32 × Int32 × Int32 × Int32 × Int64) :=
if m_kind = 3 then
if p1 ≤ m_number then
(f_X12_go m_size m_to m_from m_kind m_number m_name a_tape).bind (fun q6 =>
some (m_number, q6.1, q6.2.1, q6.2.2.1, q6.2.2.2.1, m_fault, m_place, q6.2.2.2.2))
else
(f_X12_bad m_from m_kind m_fault m_place 2).bind (fun q7 =>
some ((-1), m_to, m_from, m_kind, m_number, q7.2.1, q7.2.2, m_name))
else
(f_X12_bad m_from m_kind m_fault m_place 1).bind (fun q8 =>
some ((-1), m_to, m_from, m_kind, m_number, q8.2.1, q8.2.2, m_name))
def f_X12_readSpan_b39 (m_size : Int32) (m_to : Int32) (m_from : Int32) (m_kind : Int32) (m_number : Int32) (m_fault : Int32) (m_place : Int32) (m_name : Int64) (a_tape : Nat → Int32) (a_low : Nat → Int32) (a_high : Nat → Int32) (u1 : Int32) : Option (Int32 × Int32 × Int32 × Int32 × Int32 × Int32 × Int32 × Int64 × (Nat → Int32) × (Nat → Int32)) :=
(f_X12_isKey m_kind m_name 555).bind (fun q17 =>
if q17 = 0 then
(f_X12_bad m_from m_kind m_fault m_place 1).bind (fun q25 =>
gB q25.1 (
some (q25.1, m_to, m_from, m_kind, m_number, q25.2.1, q25.2.2, m_name, a_low, a_high)))
else
(f_X12_go m_size m_to m_from m_kind m_number m_name a_tape).bind (fun q19 =>
gIn u1 84 (
(f_X12_readNumber m_size q19.1 q19.2.1 q19.2.2.1 q19.2.2.2.1 m_fault m_place q19.2.2.2.2 a_tape (a_low (Int32.toNatClampNeg u1))).bind (fun q21 =>
gIn u1 84 (
gIn u1 84 (
if ((upd a_high (Int32.toNatClampNeg u1) q21.1) (Int32.toNatClampNeg u1)) = (-1) then
some (0, q21.2.1, q21.2.2.1, q21.2.2.2.1, q21.2.2.2.2.1, q21.2.2.2.2.2.1, q21.2.2.2.2.2.2.1, q21.2.2.2.2.2.2.2, a_low, upd a_high (Int32.toNatClampNeg u1) q21.1)
else
some (1, q21.2.1, q21.2.2.1, q21.2.2.2.1, q21.2.2.2.2.1, q21.2.2.2.2.2.1, q21.2.2.2.2.2.2.1, q21.2.2.2.2.2.2.2, a_low, upd a_high (Int32.toNatClampNeg u1) q21.1)))))))
def f_X12_readSpan (m_size : Int32) (m_to : Int32) (m_from : Int32) (m_kind : Int32) (m_number : Int32) (m_fault : Int32) (m_place : Int32) (m_name : Int64) (a_tape : Nat → Int32) (a_low : Nat → Int32) (a_high : Nat → Int32) (p1 : Int32) (p2 : Int32) (p3 : Int32) : Option (Int32 × Int32 × Int32 × Int32 × Int32 × Int32 × Int32 × Int64 × (Nat → Int32) × (Nat → Int32)) :=
(f_X12_readNumber m_size m_to m_from m_kind m_number m_fault m_place m_name a_tape p2).bind (fun q12 =>
gIn p1 84 (
gIn p1 84 (
if ((upd a_low (Int32.toNatClampNeg p1) q12.1) (Int32.toNatClampNeg p1)) = (-1) then
some (0, q12.2.1, q12.2.2.1, q12.2.2.2.1, q12.2.2.2.2.1, q12.2.2.2.2.2.1, q12.2.2.2.2.2.2.1, q12.2.2.2.2.2.2.2, upd a_low (Int32.toNatClampNeg p1) q12.1, a_high)
else
if p3 = 0 then
(f_X12_isKey q12.2.2.2.1 q12.2.2.2.2.2.2.2 555).bind (fun q27 =>
if q27 = 0 then
some (1, q12.2.1, q12.2.2.1, q12.2.2.2.1, q12.2.2.2.2.1, q12.2.2.2.2.2.1, q12.2.2.2.2.2.2.1, q12.2.2.2.2.2.2.2, upd a_low (Int32.toNatClampNeg p1) q12.1, a_high)
else
f_X12_readSpan_b39 m_size q12.2.1 q12.2.2.1 q12.2.2.2.1 q12.2.2.2.2.1 q12.2.2.2.2.2.1 q12.2.2.2.2.2.2.1 q12.2.2.2.2.2.2.2 a_tape (upd a_low (Int32.toNatClampNeg p1) q12.1) a_high p1)
else
f_X12_readSpan_b39 m_size q12.2.1 q12.2.2.1 q12.2.2.2.1 q12.2.2.2.2.1 q12.2.2.2.2.2.1 q12.2.2.2.2.2.2.1 q12.2.2.2.2.2.2.2 a_tape (upd a_low (Int32.toNatClampNeg p1) q12.1) a_high p1)))
def f_X12_readSaying_b243 (m_size : Int32) (m_to : Int32) (m_from : Int32) (m_kind : Int32) (m_number : Int32) (m_fault : Int32) (m_place : Int32) (m_name : Int64) (m_newHappenings : Int32) (a_tape : Nat → Int32) (a_happened : Nat → Int64) (a_many : Nat → Int32) (a_sort : Nat → Int32) (a_one : Nat → Int32) (a_other : Nat → Int32) (a_low : Nat → Int32) (a_high : Nat → Int32) (a_begins : Nat → Int32) (w0 : Int32) (w1 : Int32) (w2 : Int32) : Option (Int32 × Int32 × Int32 × Int32 × Int32 × Int32 × Int32 × Int64 × Int32 × (Nat → Int64) × (Nat → Int32) × (Nat → Int32) × (Nat → Int32) × (Nat → Int32) × (Nat → Int32) × (Nat → Int32)) :=
(f_X12_readSpan m_size m_to m_from m_kind m_number m_fault m_place m_name a_tape a_low a_high w2 w1 w0).bind (fun q70 =>
gB q70.1 (
some (q70.1, q70.2.1, q70.2.2.1, q70.2.2.2.1, q70.2.2.2.2.1, q70.2.2.2.2.2.1, q70.2.2.2.2.2.2.1, q70.2.2.2.2.2.2.2.1, m_newHappenings, a_happened, a_sort, a_one, a_other, q70.2.2.2.2.2.2.2.2.1, q70.2.2.2.2.2.2.2.2.2, a_begins)))
def f_X12_readSaying_b225 (m_size : Int32) (m_to : Int32) (m_from : Int32) (m_kind : Int32) (m_number : Int32) (m_fault : Int32) (m_place : Int32) (m_name : Int64) (m_newHappenings : Int32) (a_tape : Nat → Int32) (a_happened : Nat → Int64) (a_many : Nat → Int32) (a_sort : Nat → Int32) (a_one : Nat → Int32) (a_other : Nat → Int32) (a_low : Nat → Int32) (a_high : Nat → Int32) (a_begins : Nat → Int32) (u1 : Int32) : Option (Int32 × Int32 × Int32 × Int32 × Int32 × Int32 × Int32 × Int64 × Int32 × (Nat → Int64) × (Nat → Int32) × (Nat → Int32) × (Nat → Int32) × (Nat → Int32) × (Nat → Int32) × (Nat → Int32)) :=
gIn u1 84 (
if (a_sort (Int32.toNatClampNeg u1)) = 1 then
f_X12_readSaying_b243 m_size m_to m_from m_kind m_number m_fault m_place m_name m_newHappenings a_tape a_happened a_many a_sort a_one a_other a_low a_high a_begins 1 0 u1
else
f_X12_readSaying_b243 m_size m_to m_from m_kind m_number m_fault m_place m_name m_newHappenings a_tape a_happened a_many a_sort a_one a_other a_low a_high a_begins 0 0 u1)
def f_X12_readSaying_b184 (m_size : Int32) (m_to : Int32) (m_from : Int32) (m_kind : Int32) (m_number : Int32) (m_fault : Int32) (m_place : Int32) (m_name : Int64) (m_newHappenings : Int32) (a_tape : Nat → Int32) (a_happened : Nat → Int64) (a_many : Nat → Int32) (a_sort : Nat → Int32) (a_one : Nat → Int32) (a_other : Nat → Int32) (a_low : Nat → Int32) (a_high : Nat → Int32) (a_begins : Nat → Int32) (u1 : Int32) (w0 : Int32) (w1 : Int32) : Option (Int32 × Int32 × Int32 × Int32 × Int32 × Int32 × Int32 × Int64 × Int32 × (Nat → Int64) × (Nat → Int32) × (Nat → Int32) × (Nat → Int32) × (Nat → Int32) × (Nat → Int32) × (Nat → Int32)) :=
gIn w1 84 (
gIn u1 84 (
if ((upd a_sort (Int32.toNatClampNeg w1) w0) (Int32.toNatClampNeg u1)) = (-1) then
(f_X12_bad m_from m_kind m_fault m_place 1).bind (fun q92 =>
gB q92.1 (
some (q92.1, m_to, m_from, m_kind, m_number, q92.2.1, q92.2.2, m_name, m_newHappenings, a_happened, upd a_sort (Int32.toNatClampNeg w1) w0, a_one, a_other, a_low, a_high, a_begins)))
else
(f_X12_go m_size m_to m_from m_kind m_number m_name a_tape).bind (fun q65 =>
gIn u1 84 (
if ((upd a_sort (Int32.toNatClampNeg w1) w0) (Int32.toNatClampNeg u1)) = 1 then
f_X12_readSaying_b225 m_size q65.1 q65.2.1 q65.2.2.1 q65.2.2.2.1 m_fault m_place q65.2.2.2.2 m_newHappenings a_tape a_happened a_many (upd a_sort (Int32.toNatClampNeg w1) w0) a_one a_other a_low a_high a_begins u1
else
gIn u1 84 (
if ((upd a_sort (Int32.toNatClampNeg w1) w0) (Int32.toNatClampNeg u1)) = 4 then
f_X12_readSaying_b225 m_size q65.1 q65.2.1 q65.2.2.1 q65.2.2.2.1 m_fault m_place q65.2.2.2.2 m_newHappenings a_tape a_happened a_many (upd a_sort (Int32.toNatClampNeg w1) w0) a_one a_other a_low a_high a_begins u1
else
gIn u1 84 (
if 4 ≤ ((upd a_sort (Int32.toNatClampNeg w1) w0) (Int32.toNatClampNeg u1)) then
gIn u1 84 (
(f_X12_readHappening m_size q65.1 q65.2.1 q65.2.2.1 q65.2.2.2.1 m_fault m_place q65.2.2.2.2 m_newHappenings a_tape a_happened (a_one (Int32.toNatClampNeg u1))).bind (fun q77 =>
gIn u1 84 (
gIn u1 84 (
if ((upd a_other (Int32.toNatClampNeg u1) q77.1) (Int32.toNatClampNeg u1)) = (-1) then
some (0, q77.2.1, q77.2.2.1, q77.2.2.2.1, q77.2.2.2.2.1, q77.2.2.2.2.2.1, q77.2.2.2.2.2.2.1, q77.2.2.2.2.2.2.2.1, q77.2.2.2.2.2.2.2.2.1, q77.2.2.2.2.2.2.2.2.2, upd a_sort (Int32.toNatClampNeg w1) w0, a_one, upd a_other (Int32.toNatClampNeg u1) q77.1, a_low, a_high, a_begins)
else
gIn u1 84 (
if ((upd a_sort (Int32.toNatClampNeg w1) w0) (Int32.toNatClampNeg u1)) = 6 then
some (1, q77.2.1, q77.2.2.1, q77.2.2.2.1, q77.2.2.2.2.1, q77.2.2.2.2.2.1, q77.2.2.2.2.2.2.1, q77.2.2.2.2.2.2.2.1, q77.2.2.2.2.2.2.2.2.1, q77.2.2.2.2.2.2.2.2.2, upd a_sort (Int32.toNatClampNeg w1) w0, a_one, upd a_other (Int32.toNatClampNeg u1) q77.1, a_low, a_high, a_begins)
else
(f_X12_isKey q77.2.2.2.1 q77.2.2.2.2.2.2.2.1 79).bind (fun q83 =>
if q83 = 0 then
some (1, q77.2.1, q77.2.2.1, q77.2.2.2.1, q77.2.2.2.2.1, q77.2.2.2.2.2.1, q77.2.2.2.2.2.2.1, q77.2.2.2.2.2.2.2.1, q77.2.2.2.2.2.2.2.2.1, q77.2.2.2.2.2.2.2.2.2, upd a_sort (Int32.toNatClampNeg w1) w0, a_one, upd a_other (Int32.toNatClampNeg u1) q77.1, a_low, a_high, a_begins)
else
(f_X12_go m_size q77.2.1 q77.2.2.1 q77.2.2.2.1 q77.2.2.2.2.1 q77.2.2.2.2.2.2.2.1 a_tape).bind (fun q85 =>
(f_X12_readSpan m_size q85.1 q85.2.1 q85.2.2.1 q85.2.2.2.1 q77.2.2.2.2.2.1 q77.2.2.2.2.2.2.1 q85.2.2.2.2 a_tape a_low a_high u1 1 0).bind (fun q86 =>
gB q86.1 (
some (q86.1, q86.2.1, q86.2.2.1, q86.2.2.2.1, q86.2.2.2.2.1, q86.2.2.2.2.2.1, q86.2.2.2.2.2.2.1, q86.2.2.2.2.2.2.2.1, q77.2.2.2.2.2.2.2.2.1, q77.2.2.2.2.2.2.2.2.2, upd a_sort (Int32.toNatClampNeg w1) w0, a_one, upd a_other (Int32.toNatClampNeg u1) q77.1, q86.2.2.2.2.2.2.2.2.1, q86.2.2.2.2.2.2.2.2.2, a_begins))))))))))
else
(f_X12_readNumber m_size q65.1 q65.2.1 q65.2.2.1 q65.2.2.2.1 m_fault m_place q65.2.2.2.2 a_tape 0).bind (fun q88 =>
gIn u1 84 (
gIn u1 84 (
if ((upd a_low (Int32.toNatClampNeg u1) q88.1) (Int32.toNatClampNeg u1)) = (-1) then
some (0, q88.2.1, q88.2.2.1, q88.2.2.2.1, q88.2.2.2.2.1, q88.2.2.2.2.2.1, q88.2.2.2.2.2.2.1, q88.2.2.2.2.2.2.2, m_newHappenings, a_happened, upd a_sort (Int32.toNatClampNeg w1) w0, a_one, a_other, upd a_low (Int32.toNatClampNeg u1) q88.1, a_high, a_begins)
else
some (1, q88.2.1, q88.2.2.1, q88.2.2.2.1, q88.2.2.2.2.1, q88.2.2.2.2.2.1, q88.2.2.2.2.2.2.1, q88.2.2.2.2.2.2.2, m_newHappenings, a_happened, upd a_sort (Int32.toNatClampNeg w1) w0, a_one, a_other, upd a_low (Int32.toNatClampNeg u1) q88.1, a_high, a_begins))))))))))
def f_X12_readSaying_b25 (m_size : Int32) (m_to : Int32) (m_from : Int32) (m_kind : Int32) (m_number : Int32) (m_fault : Int32) (m_place : Int32) (m_name : Int64) (m_newHappenings : Int32) (a_tape : Nat → Int32) (a_happened : Nat → Int64) (a_many : Nat → Int32) (a_sort : Nat → Int32) (a_one : Nat → Int32) (a_other : Nat → Int32) (a_low : Nat → Int32) (a_high : Nat → Int32) (a_begins : Nat → Int32) (u1 : Int32) : Option (Int32 × Int32 × Int32 × Int32 × Int32 × Int32 × Int32 × Int64 × Int32 × (Nat → Int64) × (Nat → Int32) × (Nat → Int32) × (Nat → Int32) × (Nat → Int32) × (Nat → Int32) × (Nat → Int32)) :=
gIn u1 84 (
(f_X12_readHappening m_size m_to m_from m_kind m_number m_fault m_place m_name m_newHappenings a_tape a_happened (-1)).bind (fun q41 =>
gIn u1 84 (
gIn u1 84 (
if ((upd a_one (Int32.toNatClampNeg u1) q41.1) (Int32.toNatClampNeg u1)) = (-1) then
some (0, q41.2.1, q41.2.2.1, q41.2.2.2.1, q41.2.2.2.2.1, q41.2.2.2.2.2.1, q41.2.2.2.2.2.2.1, q41.2.2.2.2.2.2.2.1, q41.2.2.2.2.2.2.2.2.1, q41.2.2.2.2.2.2.2.2.2, a_sort, upd a_one (Int32.toNatClampNeg u1) q41.1, a_other, a_low, a_high, upd a_begins (Int32.toNatClampNeg u1) m_from)
else
gIn u1 84 (
gIn u1 84 (
gIn u1 84 (
(f_X12_isKey q41.2.2.2.1 q41.2.2.2.2.2.2.2.1 419).bind (fun q48 =>
if q48 = 0 then
(f_X12_isKey q41.2.2.2.1 q41.2.2.2.2.2.2.2.1 131638).bind (fun q50 =>
if q50 = 0 then
(f_X12_isKey q41.2.2.2.1 q41.2.2.2.2.2.2.2.1 79).bind (fun q52 =>
if q52 = 0 then
(f_X12_isKey q41.2.2.2.1 q41.2.2.2.2.2.2.2.1 10284818).bind (fun q54 =>
if q54 = 0 then
(f_X12_isKey q41.2.2.2.1 q41.2.2.2.2.2.2.2.1 6411385).bind (fun q56 =>
if q56 = 0 then
(f_X12_isKey q41.2.2.2.1 q41.2.2.2.2.2.2.2.1 31484543).bind (fun q58 =>
if q58 = 0 then
(f_X12_isKey q41.2.2.2.1 q41.2.2.2.2.2.2.2.1 12387497).bind (fun q60 =>
if q60 = 0 then
f_X12_readSaying_b184 m_size q41.2.1 q41.2.2.1 q41.2.2.2.1 q41.2.2.2.2.1 q41.2.2.2.2.2.1 q41.2.2.2.2.2.2.1 q41.2.2.2.2.2.2.2.1 q41.2.2.2.2.2.2.2.2.1 a_tape q41.2.2.2.2.2.2.2.2.2 a_many a_sort (upd a_one (Int32.toNatClampNeg u1) q41.1) (upd a_other (Int32.toNatClampNeg u1) (-1)) (upd a_low (Int32.toNatClampNeg u1) (-1)) (upd a_high (Int32.toNatClampNeg u1) (-1)) (upd a_begins (Int32.toNatClampNeg u1) m_from) u1 (-1) u1
else
f_X12_readSaying_b184 m_size q41.2.1 q41.2.2.1 q41.2.2.2.1 q41.2.2.2.2.1 q41.2.2.2.2.2.1 q41.2.2.2.2.2.2.1 q41.2.2.2.2.2.2.2.1 q41.2.2.2.2.2.2.2.2.1 a_tape q41.2.2.2.2.2.2.2.2.2 a_many a_sort (upd a_one (Int32.toNatClampNeg u1) q41.1) (upd a_other (Int32.toNatClampNeg u1) (-1)) (upd a_low (Int32.toNatClampNeg u1) (-1)) (upd a_high (Int32.toNatClampNeg u1) (-1)) (upd a_begins (Int32.toNatClampNeg u1) m_from) u1 6 u1)
else
f_X12_readSaying_b184 m_size q41.2.1 q41.2.2.1 q41.2.2.2.1 q41.2.2.2.2.1 q41.2.2.2.2.2.1 q41.2.2.2.2.2.2.1 q41.2.2.2.2.2.2.2.1 q41.2.2.2.2.2.2.2.2.1 a_tape q41.2.2.2.2.2.2.2.2.2 a_many a_sort (upd a_one (Int32.toNatClampNeg u1) q41.1) (upd a_other (Int32.toNatClampNeg u1) (-1)) (upd a_low (Int32.toNatClampNeg u1) (-1)) (upd a_high (Int32.toNatClampNeg u1) (-1)) (upd a_begins (Int32.toNatClampNeg u1) m_from) u1 5 u1)
else
f_X12_readSaying_b184 m_size q41.2.1 q41.2.2.1 q41.2.2.2.1 q41.2.2.2.2.1 q41.2.2.2.2.2.1 q41.2.2.2.2.2.2.1 q41.2.2.2.2.2.2.2.1 q41.2.2.2.2.2.2.2.2.1 a_tape q41.2.2.2.2.2.2.2.2.2 a_many a_sort (upd a_one (Int32.toNatClampNeg u1) q41.1) (upd a_other (Int32.toNatClampNeg u1) (-1)) (upd a_low (Int32.toNatClampNeg u1) (-1)) (upd a_high (Int32.toNatClampNeg u1) (-1)) (upd a_begins (Int32.toNatClampNeg u1) m_from) u1 4 u1)
else
f_X12_readSaying_b184 m_size q41.2.1 q41.2.2.1 q41.2.2.2.1 q41.2.2.2.2.1 q41.2.2.2.2.2.1 q41.2.2.2.2.2.2.1 q41.2.2.2.2.2.2.2.1 q41.2.2.2.2.2.2.2.2.1 a_tape q41.2.2.2.2.2.2.2.2.2 a_many a_sort (upd a_one (Int32.toNatClampNeg u1) q41.1) (upd a_other (Int32.toNatClampNeg u1) (-1)) (upd a_low (Int32.toNatClampNeg u1) (-1)) (upd a_high (Int32.toNatClampNeg u1) (-1)) (upd a_begins (Int32.toNatClampNeg u1) m_from) u1 3 u1)
else
f_X12_readSaying_b184 m_size q41.2.1 q41.2.2.1 q41.2.2.2.1 q41.2.2.2.2.1 q41.2.2.2.2.2.1 q41.2.2.2.2.2.2.1 q41.2.2.2.2.2.2.2.1 q41.2.2.2.2.2.2.2.2.1 a_tape q41.2.2.2.2.2.2.2.2.2 a_many a_sort (upd a_one (Int32.toNatClampNeg u1) q41.1) (upd a_other (Int32.toNatClampNeg u1) (-1)) (upd a_low (Int32.toNatClampNeg u1) (-1)) (upd a_high (Int32.toNatClampNeg u1) (-1)) (upd a_begins (Int32.toNatClampNeg u1) m_from) u1 2 u1)
else
f_X12_readSaying_b184 m_size q41.2.1 q41.2.2.1 q41.2.2.2.1 q41.2.2.2.2.1 q41.2.2.2.2.2.1 q41.2.2.2.2.2.2.1 q41.2.2.2.2.2.2.2.1 q41.2.2.2.2.2.2.2.2.1 a_tape q41.2.2.2.2.2.2.2.2.2 a_many a_sort (upd a_one (Int32.toNatClampNeg u1) q41.1) (upd a_other (Int32.toNatClampNeg u1) (-1)) (upd a_low (Int32.toNatClampNeg u1) (-1)) (upd a_high (Int32.toNatClampNeg u1) (-1)) (upd a_begins (Int32.toNatClampNeg u1) m_from) u1 1 u1)
else
f_X12_readSaying_b184 m_size q41.2.1 q41.2.2.1 q41.2.2.2.1 q41.2.2.2.2.1 q41.2.2.2.2.2.1 q41.2.2.2.2.2.2.1 q41.2.2.2.2.2.2.2.1 q41.2.2.2.2.2.2.2.2.1 a_tape q41.2.2.2.2.2.2.2.2.2 a_many a_sort (upd a_one (Int32.toNatClampNeg u1) q41.1) (upd a_other (Int32.toNatClampNeg u1) (-1)) (upd a_low (Int32.toNatClampNeg u1) (-1)) (upd a_high (Int32.toNatClampNeg u1) (-1)) (upd a_begins (Int32.toNatClampNeg u1) m_from) u1 0 u1))))))))
def f_X12_readSaying (m_size : Int32) (m_to : Int32) (m_from : Int32) (m_kind : Int32) (m_number : Int32) (m_fault : Int32) (m_place : Int32) (m_name : Int64) (m_newHappenings : Int32) (a_tape : Nat → Int32) (a_happened : Nat → Int64) (a_many : Nat → Int32) (a_sort : Nat → Int32) (a_one : Nat → Int32) (a_other : Nat → Int32) (a_low : Nat → Int32) (a_high : Nat → Int32) (a_begins : Nat → Int32) (p1 : Int32) : Option (Int32 × Int32 × Int32 × Int32 × Int32 × Int32 × Int32 × Int64 × Int32 × (Nat → Int64) × (Nat → Int32) × (Nat → Int32) × (Nat → Int32) × (Nat → Int32) × (Nat → Int32) × (Nat → Int32)) :=
(f_X12_isFree m_kind m_name).bind (fun q38 =>
if q38 = 0 then
f_X12_readSaying_b25 m_size m_to m_from m_kind m_number m_fault m_place m_name m_newHappenings a_tape a_happened a_many a_sort a_one a_other a_low a_high a_begins p1
else
gIn 6 7 (
if (a_many (Int32.toNatClampNeg 6)) = 12 then
(f_X12_bad m_from m_kind m_fault m_place 4).bind (fun q96 =>
gB q96.1 (
some (q96.1, m_to, m_from, m_kind, m_number, q96.2.1, q96.2.2, m_name, m_newHappenings, a_happened, a_sort, a_one, a_other, a_low, a_high, a_begins)))
else
f_X12_readSaying_b25 m_size m_to m_from m_kind m_number m_fault m_place m_name m_newHappenings a_tape a_happened a_many a_sort a_one a_other a_low a_high a_begins p1))
def f_X12_readText_l25 (m_size : Int32) (m_happenings : Int32) (a_tape : Nat → Int32) (sg : Int32 × Int32 × Int32 × Int32 × Int32 × Int32 × Int64 × Int32 × (Nat → Int64) × (Nat → Int32) × (Nat → Int32) × (Nat → Int32) × (Nat → Int32) × (Nat → Int32) × (Nat → Int32) × (Nat → Int32)) : Option ((Int32 × Int32 × Int32 × Int32 × Int32 × Int32 × Int64 × Int32 × (Nat → Int64) × (Nat → Int32) × (Nat → Int32) × (Nat → Int32) × (Nat → Int32) × (Nat → Int32) × (Nat → Int32) × (Nat → Int32)) ⊕ ((Int32 × Int32 × Int32 × Int32 × Int32 × Int32 × Int64 × Int32 × (Nat → Int64) × (Nat → Int32) × (Nat → Int32) × (Nat → Int32) × (Nat → Int32) × (Nat → Int32) × (Nat → Int32) × (Nat → Int32)) ⊕ (Int32 × Int32 × Int32 × Int32 × Int32 × Int32 × Int32 × Int64 × Int32 × (Nat → Int64) × (Nat → Int32) × (Nat → Int32) × (Nat → Int32) × (Nat → Int32) × (Nat → Int32) × (Nat → Int32) × (Nat → Int32)))) :=
if sg.2.2.1 = 0 then
some (.inr (.inl (sg.1, sg.2.1, sg.2.2.1, sg.2.2.2.1, sg.2.2.2.2.1, sg.2.2.2.2.2.1, sg.2.2.2.2.2.2.1, sg.2.2.2.2.2.2.2.1, sg.2.2.2.2.2.2.2.2.1, sg.2.2.2.2.2.2.2.2.2.1, sg.2.2.2.2.2.2.2.2.2.2.1, sg.2.2.2.2.2.2.2.2.2.2.2.1, sg.2.2.2.2.2.2.2.2.2.2.2.2.1, sg.2.2.2.2.2.2.2.2.2.2.2.2.2.1, sg.2.2.2.2.2.2.2.2.2.2.2.2.2.2.1, sg.2.2.2.2.2.2.2.2.2.2.2.2.2.2.2)))
else
gIn 6 7 (
(f_X12_readSaying m_size sg.1 sg.2.1 sg.2.2.1 sg.2.2.2.1 sg.2.2.2.2.1 sg.2.2.2.2.2.1 sg.2.2.2.2.2.2.1 sg.2.2.2.2.2.2.2.1 a_tape sg.2.2.2.2.2.2.2.2.1 sg.2.2.2.2.2.2.2.2.2.1 sg.2.2.2.2.2.2.2.2.2.2.1 sg.2.2.2.2.2.2.2.2.2.2.2.1 sg.2.2.2.2.2.2.2.2.2.2.2.2.1 sg.2.2.2.2.2.2.2.2.2.2.2.2.2.1 sg.2.2.2.2.2.2.2.2.2.2.2.2.2.2.1 sg.2.2.2.2.2.2.2.2.2.2.2.2.2.2.2 (72 + ((sg.2.2.2.2.2.2.2.2.2.1 (Int32.toNatClampNeg 6)) - (sg.2.2.2.2.2.2.2.2.2.1 (Int32.toNatClampNeg 6)) / 12 * 12))).bind (fun q13 =>
if q13.1 = 0 then
some (.inr (.inr (0, q13.2.1, q13.2.2.1, q13.2.2.2.1, q13.2.2.2.2.1, q13.2.2.2.2.2.1, q13.2.2.2.2.2.2.1, q13.2.2.2.2.2.2.2.1, q13.2.2.2.2.2.2.2.2.1, q13.2.2.2.2.2.2.2.2.2.1, sg.2.2.2.2.2.2.2.2.2.1, q13.2.2.2.2.2.2.2.2.2.2.1, q13.2.2.2.2.2.2.2.2.2.2.2.1, q13.2.2.2.2.2.2.2.2.2.2.2.2.1, q13.2.2.2.2.2.2.2.2.2.2.2.2.2.1, q13.2.2.2.2.2.2.2.2.2.2.2.2.2.2.1, q13.2.2.2.2.2.2.2.2.2.2.2.2.2.2.2)))
else
if q13.2.2.2.1 = 4 then
gIn 6 7 (
gIn 6 7 (
(f_X12_go m_size q13.2.1 q13.2.2.1 q13.2.2.2.1 q13.2.2.2.2.1 q13.2.2.2.2.2.2.2.1 a_tape).bind (fun q18 =>
some (.inl (q18.1, q18.2.1, q18.2.2.1, q18.2.2.2.1, q13.2.2.2.2.2.1, q13.2.2.2.2.2.2.1, q18.2.2.2.2, q13.2.2.2.2.2.2.2.2.1, q13.2.2.2.2.2.2.2.2.2.1, upd sg.2.2.2.2.2.2.2.2.2.1 (Int32.toNatClampNeg 6) ((sg.2.2.2.2.2.2.2.2.2.1 (Int32.toNatClampNeg 6)) + 1), q13.2.2.2.2.2.2.2.2.2.2.1, q13.2.2.2.2.2.2.2.2.2.2.2.1, q13.2.2.2.2.2.2.2.2.2.2.2.2.1, q13.2.2.2.2.2.2.2.2.2.2.2.2.2.1, q13.2.2.2.2.2.2.2.2.2.2.2.2.2.2.1, q13.2.2.2.2.2.2.2.2.2.2.2.2.2.2.2)))))
else
(f_X12_bad q13.2.2.1 q13.2.2.2.1 q13.2.2.2.2.2.1 q13.2.2.2.2.2.2.1 1).bind (fun q19 =>
gB q19.1 (
some (.inr (.inr (q19.1, q13.2.1, q13.2.2.1, q13.2.2.2.1, q13.2.2.2.2.1, q19.2.1, q19.2.2, q13.2.2.2.2.2.2.2.1, q13.2.2.2.2.2.2.2.2.1, q13.2.2.2.2.2.2.2.2.2.1, sg.2.2.2.2.2.2.2.2.2.1, q13.2.2.2.2.2.2.2.2.2.2.1, q13.2.2.2.2.2.2.2.2.2.2.2.1, q13.2.2.2.2.2.2.2.2.2.2.2.2.1, q13.2.2.2.2.2.2.2.2.2.2.2.2.2.1, q13.2.2.2.2.2.2.2.2.2.2.2.2.2.2.1, q13.2.2.2.2.2.2.2.2.2.2.2.2.2.2.2)))))))
def f_X12_readText (m_size : Int32) (m_to : Int32) (m_from : Int32) (m_kind : Int32) (m_number : Int32) (m_fault : Int32) (m_place : Int32) (m_name : Int64) (m_happenings : Int32) (m_newHappenings : Int32) (a_tape : Nat → Int32) (a_happened : Nat → Int64) (a_many : Nat → Int32) (a_sort : Nat → Int32) (a_one : Nat → Int32) (a_other : Nat → Int32) (a_low : Nat → Int32) (a_high : Nat → Int32) (a_begins : Nat → Int32) : Option (Int32 × Int32 × Int32 × Int32 × Int32 × Int32 × Int32 × Int64 × Int32 × (Nat → Int64) × (Nat → Int32) × (Nat → Int32) × (Nat → Int32) × (Nat → Int32) × (Nat → Int32) × (Nat → Int32) × (Nat → Int32)) :=
gIn 6 7 (
(f_X12_go m_size 0 m_from m_kind m_number m_name a_tape).bind (fun q10 =>
(lp (f_X12_readText_l25 m_size m_happenings a_tape) gFU (q10.1, q10.2.1, q10.2.2.1, q10.2.2.2.1, m_fault, m_place, q10.2.2.2.2, m_happenings, a_happened, upd a_many (Int32.toNatClampNeg 6) 0, a_sort, a_one, a_other, a_low, a_high, a_begins)).bind (fun q21 => Sum.elim (fun t22 =>
some (1, t22.1, t22.2.1, t22.2.2.1, t22.2.2.2.1, t22.2.2.2.2.1, t22.2.2.2.2.2.1, t22.2.2.2.2.2.2.1, t22.2.2.2.2.2.2.2.1, t22.2.2.2.2.2.2.2.2.1, t22.2.2.2.2.2.2.2.2.2.1, t22.2.2.2.2.2.2.2.2.2.2.1, t22.2.2.2.2.2.2.2.2.2.2.2.1, t22.2.2.2.2.2.2.2.2.2.2.2.2.1, t22.2.2.2.2.2.2.2.2.2.2.2.2.2.1, t22.2.2.2.2.2.2.2.2.2.2.2.2.2.2.1, t22.2.2.2.2.2.2.2.2.2.2.2.2.2.2.2)) (fun r23 => some r23) q21)))
def f_X12_isTeller (p0 : Int32) : Option (Int32) :=
if p0 < 0 then
some 0
else
if 6 ≤ p0 then
some 0
else
some 1
def f_X12_tell_l73 (m_thrown : Int32) (m_taped : Int32) (m_size : Int32) (m_to : Int32) (m_from : Int32) (m_kind : Int32) (m_number : Int32) (m_fault : Int32) (m_place : Int32) (m_name : Int64) (m_happenings : Int32) (m_newHappenings : Int32) (a_tape : Nat → Int32) (a_happened : Nat → Int64) (a_many : Nat → Int32) (u1 : Int32) (sg : Int32 × (Nat → Int32) × (Nat → Int32) × (Nat → Int32) × (Nat → Int32) × (Nat → Int32) × (Nat → Int32)) : Option ((Int32 × (Nat → Int32) × (Nat → Int32) × (Nat → Int32) × (Nat → Int32) × (Nat → Int32) × (Nat → Int32)) ⊕ (Int32 × (Nat → Int32) × (Nat → Int32) × (Nat → Int32) × (Nat → Int32) × (Nat → Int32) × (Nat → Int32))) :=
gIn u1 7 (
if (a_many (Int32.toNatClampNeg u1)) ≤ sg.1 then
some (.inr (sg.1, sg.2.1, sg.2.2.1, sg.2.2.2.1, sg.2.2.2.2.1, sg.2.2.2.2.2.1, sg.2.2.2.2.2.2))
else
gIn (72 + sg.1) 84 (
gIn ((12 * u1) + sg.1) 84 (
gIn (72 + sg.1) 84 (
gIn ((12 * u1) + sg.1) 84 (
gIn (72 + sg.1) 84 (
gIn ((12 * u1) + sg.1) 84 (
gIn (72 + sg.1) 84 (
gIn ((12 * u1) + sg.1) 84 (
gIn (72 + sg.1) 84 (
gIn ((12 * u1) + sg.1) 84 (
gIn (72 + sg.1) 84 (
gIn ((12 * u1) + sg.1) 84 (
some (.inl (sg.1 + 1, upd sg.2.1 (Int32.toNatClampNeg ((12 * u1) + sg.1)) (sg.2.1 (Int32.toNatClampNeg (72 + sg.1))), upd sg.2.2.1 (Int32.toNatClampNeg ((12 * u1) + sg.1)) (sg.2.2.1 (Int32.toNatClampNeg (72 + sg.1))), upd sg.2.2.2.1 (Int32.toNatClampNeg ((12 * u1) + sg.1)) (sg.2.2.2.1 (Int32.toNatClampNeg (72 + sg.1))), upd sg.2.2.2.2.1 (Int32.toNatClampNeg ((12 * u1) + sg.1)) (sg.2.2.2.2.1 (Int32.toNatClampNeg (72 + sg.1))), upd sg.2.2.2.2.2.1 (Int32.toNatClampNeg ((12 * u1) + sg.1)) (sg.2.2.2.2.2.1 (Int32.toNatClampNeg (72 + sg.1))), upd sg.2.2.2.2.2.2 (Int32.toNatClampNeg ((12 * u1) + sg.1)) (sg.2.2.2.2.2.2 (Int32.toNatClampNeg (72 + sg.1))))))))))))))))))
def f_X12_tell (m_thrown : Int32) (m_taped : Int32) (m_size : Int32) (m_to : Int32) (m_from : Int32) (m_kind : Int32) (m_number : Int32) (m_fault : Int32) (m_place : Int32) (m_name : Int64) (m_happenings : Int32) (m_newHappenings : Int32) (a_tape : Nat → Int32) (a_happened : Nat → Int64) (a_many : Nat → Int32) (a_sort : Nat → Int32) (a_one : Nat → Int32) (a_other : Nat → Int32) (a_low : Nat → Int32) (a_high : Nat → Int32) (a_begins : Nat → Int32) (p1 : Int32) : Option (Int32 × Int32 × Int32 × Int32 × Int32 × Int32 × Int32 × Int32 × Int32 × Int32 × Int64 × Int32 × Int32 × (Nat → Int64) × (Nat → Int32) × (Nat → Int32) × (Nat → Int32) × (Nat → Int32) × (Nat → Int32) × (Nat → Int32) × (Nat → Int32)) :=
(f_X12_isTeller p1).bind (fun q20 =>
if q20 = 0 then
(f_X12_refuse m_thrown 1).bind (fun q42 =>
some (q42.1, q42.2, m_taped, m_size, m_to, m_from, m_kind, m_number, m_fault, m_place, m_name, m_happenings, m_newHappenings, a_happened, a_many, a_sort, a_one, a_other, a_low, a_high, a_begins))
else
(f_X12_readText m_taped m_to m_from m_kind m_number 0 m_place m_name m_happenings m_newHappenings a_tape a_happened a_many a_sort a_one a_other a_low a_high a_begins).bind (fun q22 =>
if q22.1 = 0 then
some ((-1) - q22.2.2.2.2.2.2.1, 0, 0, m_taped, q22.2.1, q22.2.2.1, q22.2.2.2.1, q22.2.2.2.2.1, q22.2.2.2.2.2.1, q22.2.2.2.2.2.2.1, q22.2.2.2.2.2.2.2.1, m_happenings, q22.2.2.2.2.2.2.2.2.1, q22.2.2.2.2.2.2.2.2.2.1, q22.2.2.2.2.2.2.2.2.2.2.1, q22.2.2.2.2.2.2.2.2.2.2.2.1, q22.2.2.2.2.2.2.2.2.2.2.2.2.1, q22.2.2.2.2.2.2.2.2.2.2.2.2.2.1, q22.2.2.2.2.2.2.2.2.2.2.2.2.2.2.1, q22.2.2.2.2.2.2.2.2.2.2.2.2.2.2.2.1, q22.2.2.2.2.2.2.2.2.2.2.2.2.2.2.2.2)
else
gIn 6 7 (
gIn p1 7 (
(lp (f_X12_tell_l73 0 0 m_taped q22.2.1 q22.2.2.1 q22.2.2.2.1 q22.2.2.2.2.1 q22.2.2.2.2.2.1 q22.2.2.2.2.2.2.1 q22.2.2.2.2.2.2.2.1 q22.2.2.2.2.2.2.2.2.1 q22.2.2.2.2.2.2.2.2.1 a_tape q22.2.2.2.2.2.2.2.2.2.1 (upd q22.2.2.2.2.2.2.2.2.2.2.1 (Int32.toNatClampNeg p1) (q22.2.2.2.2.2.2.2.2.2.2.1 (Int32.toNatClampNeg 6))) p1) gFU (0, q22.2.2.2.2.2.2.2.2.2.2.2.1, q22.2.2.2.2.2.2.2.2.2.2.2.2.1, q22.2.2.2.2.2.2.2.2.2.2.2.2.2.1, q22.2.2.2.2.2.2.2.2.2.2.2.2.2.2.1, q22.2.2.2.2.2.2.2.2.2.2.2.2.2.2.2.1, q22.2.2.2.2.2.2.2.2.2.2.2.2.2.2.2.2)).bind (fun q40 =>
gIn p1 7 (
some ((upd q22.2.2.2.2.2.2.2.2.2.2.1 (Int32.toNatClampNeg p1) (q22.2.2.2.2.2.2.2.2.2.2.1 (Int32.toNatClampNeg 6))) (Int32.toNatClampNeg p1), 0, 0, m_taped, q22.2.1, q22.2.2.1, q22.2.2.2.1, q22.2.2.2.2.1, q22.2.2.2.2.2.1, q22.2.2.2.2.2.2.1, q22.2.2.2.2.2.2.2.1, q22.2.2.2.2.2.2.2.2.1, q22.2.2.2.2.2.2.2.2.1, q22.2.2.2.2.2.2.2.2.2.1, upd q22.2.2.2.2.2.2.2.2.2.2.1 (Int32.toNatClampNeg p1) (q22.2.2.2.2.2.2.2.2.2.2.1 (Int32.toNatClampNeg 6)), q40.2.1, q40.2.2.1, q40.2.2.2.1, q40.2.2.2.2.1, q40.2.2.2.2.2.1, q40.2.2.2.2.2.2)))))))
def f_X12_fault (m_thrown : Int32) (m_fault : Int32) : Option (Int32 × Int32) :=
some (m_fault, 0)
def f_X12_hear (m_thrown : Int32) (m_heard : Int32) (p1 : Int32) : Option (Int32 × Int32 × Int32) :=
if p1 < 0 then
some (0, 0, m_heard)
else
if p1 ≤ 63 then
some (1, 0, p1)
else
some (0, 0, m_heard)
def f_X12_isSaying (a_many : Nat → Int32) (p1 : Int32) (p2 : Int32) : Option (Int32) :=
if p2 < 0 then
some 0
else
gIn p1 7 (
if (a_many (Int32.toNatClampNeg p1)) ≤ p2 then
some 0
else
some 1)
def f_X12_saying_b31 (m_thrown : Int32) (a_many : Nat → Int32) (a_sort : Nat → Int32) (a_one : Nat → Int32) (a_other : Nat → Int32) (a_low : Nat → Int32) (a_high : Nat → Int32) (a_begins : Nat → Int32) : Option (Int32 × Int32) :=
(f_X12_refuse m_thrown 2).bind (fun q15 =>
some (q15.1, q15.2))
def f_X12_saying (m_thrown : Int32) (a_many : Nat → Int32) (a_sort : Nat → Int32) (a_one : Nat → Int32) (a_other : Nat → Int32) (a_low : Nat → Int32) (a_high : Nat → Int32) (a_begins : Nat → Int32) (p1 : Int32) (p2 : Int32) (p3 : Int32) : Option (Int32 × Int32) :=
(f_X12_isTeller p1).bind (fun q11 =>
if q11 = 0 then
(f_X12_refuse m_thrown 1).bind (fun q29 =>
some (q29.1, q29.2))
else
(f_X12_isSaying a_many p1 p2).bind (fun q13 =>
if q13 = 0 then
f_X12_saying_b31 m_thrown a_many a_sort a_one a_other a_low a_high a_begins
else
if p3 < 0 then
f_X12_saying_b31 m_thrown a_many a_sort a_one a_other a_low a_high a_begins
else
if p3 ≤ 5 then
if p3 = 0 then
gIn ((12 * p1) + p2) 84 (
some (a_sort (Int32.toNatClampNeg ((12 * p1) + p2)), 0))
else
if p3 = 1 then
gIn ((12 * p1) + p2) 84 (
some (a_one (Int32.toNatClampNeg ((12 * p1) + p2)), 0))
else
if p3 = 2 then
gIn ((12 * p1) + p2) 84 (
some (a_other (Int32.toNatClampNeg ((12 * p1) + p2)), 0))
else
if p3 = 3 then
gIn ((12 * p1) + p2) 84 (
some (a_low (Int32.toNatClampNeg ((12 * p1) + p2)), 0))
else
if p3 = 4 then
gIn ((12 * p1) + p2) 84 (
some (a_high (Int32.toNatClampNeg ((12 * p1) + p2)), 0))
else
gIn ((12 * p1) + p2) 84 (
some (a_begins (Int32.toNatClampNeg ((12 * p1) + p2)), 0))
else
f_X12_saying_b31 m_thrown a_many a_sort a_one a_other a_low a_high a_begins))
def f_X12_happening_l100 (m_thrown : Int32) (m_taped : Int32) (m_size : Int32) (m_to : Int32) (m_from : Int32) (m_kind : Int32) (m_number : Int32) (m_name : Int64) (m_happenings : Int32) (a_tape : Nat → Int32) (a_happened : Nat → Int64) (u1 : Int64) (sg : Int32) : Option ((Int32) ⊕ ((Int32) ⊕ (Int32 × Int32 × Int32 × Int32 × Int32 × Int32 × Int32 × Int32 × Int64))) :=
if m_happenings ≤ sg then
some (.inr (.inl sg))
else
gIn sg 20 (
if (lg_cmp (a_happened (Int32.toNatClampNeg sg)) u1) = 0 then
some (.inr (.inr (sg, m_thrown, m_taped, m_size, m_to, m_from, m_kind, m_number, m_name)))
else
some (.inl (sg + 1)))
def f_X12_happening (m_thrown : Int32) (m_taped : Int32) (m_size : Int32) (m_to : Int32) (m_from : Int32) (m_kind : Int32) (m_number : Int32) (m_name : Int64) (m_happenings : Int32) (a_tape : Nat → Int32) (a_happened : Nat → Int64) : Option (Int32 × Int32 × Int32 × Int32 × Int32 × Int32 × Int32 × Int32 × Int64) :=
(f_X12_blanks m_taped 0 a_tape).bind (fun q8 =>
if m_taped ≤ q8 then
some ((-1), 0, 0, m_taped, q8, q8, m_kind, m_number, m_name)
else
gIn q8 440 (
(f_X12_isLetter (a_tape (Int32.toNatClampNeg q8))).bind (fun q11 =>
if q11 = 0 then
some ((-1), 0, 0, m_taped, q8, q8, m_kind, m_number, m_name)
else
(f_X12_readWord m_taped q8 q8 m_kind m_number m_name a_tape).bind (fun q13 =>
(f_X12_isFree q13.2.1 q13.2.2.2).bind (fun q14 =>
if q14 = 0 then
some ((-1), 0, 0, m_taped, q13.1, q8, q13.2.1, q13.2.2.1, q13.2.2.2)
else
(f_X12_blanks m_taped q13.1 a_tape).bind (fun q16 =>
if m_taped ≤ q16 then
(lp (f_X12_happening_l100 0 0 m_taped q16 q8 q13.2.1 q13.2.2.1 q13.2.2.2 m_happenings a_tape a_happened q13.2.2.2) gFU 0).bind (fun q21 => Sum.elim (fun t22 =>
some ((-1), 0, 0, m_taped, q16, q8, q13.2.1, q13.2.2.1, q13.2.2.2)) (fun r23 => some r23) q21)
else
some ((-1), 0, 0, m_taped, q16, q8, q13.2.1, q13.2.2.1, q13.2.2.2)))))))
def f_X12_name_l31 (m_thrown : Int32) (m_happenings : Int32) (a_happened : Nat → Int64) (a_out : Nat → Int32) (u1 : Int32) (sg : Int64 × Int32) : Option ((Int64 × Int32) ⊕ (Int64 × Int32)) :=
if (lg_cmp sg.1 0) ≤ 0 then
some (.inr (sg.1, sg.2))
else
some (.inl (sg.1 / 27, sg.2 + 1))
def f_X12_name_l71 (m_thrown : Int32) (m_happenings : Int32) (m_outs : Int32) (a_happened : Nat → Int64) (sg : Int64 × Int32 × (Nat → Int32)) : Option ((Int64 × Int32 × (Nat → Int32)) ⊕ (Int64 × Int32 × (Nat → Int32))) :=
if sg.2.1 < 0 then
some (.inr (sg.1, sg.2.1, sg.2.2))
else
gIn sg.2.1 8 (
some (.inl (sg.1 / 27, sg.2.1 + (-1), upd sg.2.2 (Int32.toNatClampNeg sg.2.1) (((sg.1 - sg.1 / 27 * 27).toInt32) + 96))))
def f_X12_name (m_thrown : Int32) (m_happenings : Int32) (m_outs : Int32) (a_happened : Nat → Int64) (a_out : Nat → Int32) (p1 : Int32) : Option (Int32 × Int32 × Int32 × (Nat → Int32)) :=
if p1 < 0 then
some ((-1), 0, m_outs, a_out)
else
if p1 < m_happenings then
gIn p1 20 (
(lp (f_X12_name_l31 0 m_happenings a_happened a_out p1) gFU (a_happened (Int32.toNatClampNeg p1), 0)).bind (fun q8 =>
gIn p1 20 (
(lp (f_X12_name_l71 0 m_happenings q8.2 a_happened) gFU (a_happened (Int32.toNatClampNeg p1), q8.2 - 1, a_out)).bind (fun q12 =>
some (q8.2, 0, q8.2, q12.2.2)))))
else
some ((-1), 0, m_outs, a_out)
def f_X12_octet_b12 (m_thrown : Int32) (m_outs : Int32) (a_out : Nat → Int32) : Option (Int32 × Int32) :=
(f_X12_refuse m_thrown 1).bind (fun q4 =>
some (q4.1, q4.2))
def f_X12_octet (m_thrown : Int32) (m_outs : Int32) (a_out : Nat → Int32) (p1 : Int32) : Option (Int32 × Int32) :=
if p1 < 0 then
f_X12_octet_b12 m_thrown m_outs a_out
else
if p1 < m_outs then
gIn p1 8 (
some (a_out (Int32.toNatClampNeg p1), 0))
else
f_X12_octet_b12 m_thrown m_outs a_out
def f_X12_atMost (m_bounds : Int32) (a_behind : Nat → Int32) (a_ahead : Nat → Int32) (a_most : Nat → Int32) (p1 : Int32) (p2 : Int32) (p3 : Int32) : Option (Int32 × (Nat → Int32) × (Nat → Int32) × (Nat → Int32)) :=
gIn m_bounds 400 (
gIn m_bounds 400 (
gIn m_bounds 400 (
some (m_bounds + 1, upd a_behind (Int32.toNatClampNeg m_bounds) p2, upd a_ahead (Int32.toNatClampNeg m_bounds) p1, upd a_most (Int32.toNatClampNeg m_bounds) p3))))
def f_X12_span (m_bounds : Int32) (a_behind : Nat → Int32) (a_ahead : Nat → Int32) (a_most : Nat → Int32) (p1 : Int32) (p2 : Int32) (p3 : Int32) (p4 : Int32) : Option (Int32 × (Nat → Int32) × (Nat → Int32) × (Nat → Int32)) :=
(f_X12_atMost m_bounds a_behind a_ahead a_most p1 p2 p4).bind (fun q3 =>
(f_X12_atMost q3.1 q3.2.1 q3.2.2.1 q3.2.2.2 p2 p1 (-p3)).bind (fun q4 =>
some (q4.1, q4.2.1, q4.2.2.1, q4.2.2.2)))
def f_X12_say_b215 (m_bounds : Int32) (a_sort : Nat → Int32) (a_one : Nat → Int32) (a_other : Nat → Int32) (a_low : Nat → Int32) (a_high : Nat → Int32) (a_behind : Nat → Int32) (a_ahead : Nat → Int32) (a_most : Nat → Int32) (w0 : Int32) (w1 : Int32) (w2 : Int32) (w3 : Int32) : Option (Int32 × (Nat → Int32) × (Nat → Int32) × (Nat → Int32)) :=
(f_X12_span m_bounds a_behind a_ahead a_most w3 w2 w1 w0).bind (fun q62 =>
some (q62.1, q62.2.1, q62.2.2.1, q62.2.2.2))
def f_X12_say_b277 (m_bounds : Int32) (a_sort : Nat → Int32) (a_one : Nat → Int32) (a_other : Nat → Int32) (a_low : Nat → Int32) (a_high : Nat → Int32) (a_behind : Nat → Int32) (a_ahead : Nat → Int32) (a_most : Nat → Int32) (w0 : Int32) (w1 : Int32) (w2 : Int32) (w3 : Int32) : Option (Int32 × (Nat → Int32) × (Nat → Int32) × (Nat → Int32)) :=
(f_X12_span m_bounds a_behind a_ahead a_most w3 w2 w1 w0).bind (fun q71 =>
some (q71.1, q71.2.1, q71.2.2.1, q71.2.2.2))
def f_X12_say (m_bounds : Int32) (a_sort : Nat → Int32) (a_one : Nat → Int32) (a_other : Nat → Int32) (a_low : Nat → Int32) (a_high : Nat → Int32) (a_behind : Nat → Int32) (a_ahead : Nat → Int32) (a_most : Nat → Int32) (p1 : Int32) : Option (Int32 × (Nat → Int32) × (Nat → Int32) × (Nat → Int32)) :=
gIn p1 84 (
gIn p1 84 (
gIn p1 84 (
if (a_sort (Int32.toNatClampNeg p1)) = 0 then
gIn p1 84 (
gIn p1 84 (
(f_X12_span m_bounds a_behind a_ahead a_most 0 (1 + (2 * (a_one (Int32.toNatClampNeg p1)))) (a_low (Int32.toNatClampNeg p1)) (a_low (Int32.toNatClampNeg p1))).bind (fun q40 =>
gIn p1 84 (
gIn p1 84 (
(f_X12_span q40.1 q40.2.1 q40.2.2.1 q40.2.2.2 0 ((1 + (2 * (a_one (Int32.toNatClampNeg p1)))) + 1) (a_low (Int32.toNatClampNeg p1)) (a_low (Int32.toNatClampNeg p1))).bind (fun q43 =>
some (q43.1, q43.2.1, q43.2.2.1, q43.2.2.2)))))))
else
if (a_sort (Int32.toNatClampNeg p1)) = 1 then
gIn p1 84 (
gIn p1 84 (
(f_X12_span m_bounds a_behind a_ahead a_most 0 (1 + (2 * (a_one (Int32.toNatClampNeg p1)))) (a_low (Int32.toNatClampNeg p1)) (a_low (Int32.toNatClampNeg p1))).bind (fun q47 =>
gIn p1 84 (
gIn p1 84 (
(f_X12_span q47.1 q47.2.1 q47.2.2.1 q47.2.2.2 0 ((1 + (2 * (a_one (Int32.toNatClampNeg p1)))) + 1) (a_high (Int32.toNatClampNeg p1)) (a_high (Int32.toNatClampNeg p1))).bind (fun q50 =>
some (q50.1, q50.2.1, q50.2.2.1, q50.2.2.2)))))))
else
if (a_sort (Int32.toNatClampNeg p1)) = 2 then
gIn p1 84 (
(f_X12_atMost m_bounds a_behind a_ahead a_most 0 ((1 + (2 * (a_one (Int32.toNatClampNeg p1)))) + 1) (a_low (Int32.toNatClampNeg p1))).bind (fun q53 =>
some (q53.1, q53.2.1, q53.2.2.1, q53.2.2.2)))
else
if (a_sort (Int32.toNatClampNeg p1)) = 3 then
gIn p1 84 (
(f_X12_atMost m_bounds a_behind a_ahead a_most (1 + (2 * (a_one (Int32.toNatClampNeg p1)))) 0 (-(a_low (Int32.toNatClampNeg p1)))).bind (fun q56 =>
some (q56.1, q56.2.1, q56.2.2.1, q56.2.2.2)))
else
if (a_sort (Int32.toNatClampNeg p1)) = 4 then
gIn p1 84 (
gIn p1 84 (
if (a_high (Int32.toNatClampNeg p1)) = (-1) then
gIn p1 84 (
f_X12_say_b215 m_bounds a_sort a_one a_other a_low a_high a_behind a_ahead a_most (a_low (Int32.toNatClampNeg p1)) (a_low (Int32.toNatClampNeg p1)) ((1 + (2 * (a_one (Int32.toNatClampNeg p1)))) + 1) (1 + (2 * (a_one (Int32.toNatClampNeg p1)))))
else
gIn p1 84 (
f_X12_say_b215 m_bounds a_sort a_one a_other a_low a_high a_behind a_ahead a_most (a_high (Int32.toNatClampNeg p1)) (a_low (Int32.toNatClampNeg p1)) ((1 + (2 * (a_one (Int32.toNatClampNeg p1)))) + 1) (1 + (2 * (a_one (Int32.toNatClampNeg p1)))))))
else
if (a_sort (Int32.toNatClampNeg p1)) = 5 then
gIn p1 84 (
if (a_low (Int32.toNatClampNeg p1)) = (-1) then
(f_X12_atMost m_bounds a_behind a_ahead a_most (1 + (2 * (a_other (Int32.toNatClampNeg p1)))) ((1 + (2 * (a_one (Int32.toNatClampNeg p1)))) + 1) (-1)).bind (fun q73 =>
some (q73.1, q73.2.1, q73.2.2.1, q73.2.2.2))
else
gIn p1 84 (
gIn p1 84 (
if (a_high (Int32.toNatClampNeg p1)) = (-1) then
gIn p1 84 (
f_X12_say_b277 m_bounds a_sort a_one a_other a_low a_high a_behind a_ahead a_most (a_low (Int32.toNatClampNeg p1)) (a_low (Int32.toNatClampNeg p1)) (1 + (2 * (a_other (Int32.toNatClampNeg p1)))) ((1 + (2 * (a_one (Int32.toNatClampNeg p1)))) + 1))
else
gIn p1 84 (
f_X12_say_b277 m_bounds a_sort a_one a_other a_low a_high a_behind a_ahead a_most (a_high (Int32.toNatClampNeg p1)) (a_low (Int32.toNatClampNeg p1)) (1 + (2 * (a_other (Int32.toNatClampNeg p1)))) ((1 + (2 * (a_one (Int32.toNatClampNeg p1)))) + 1)))))
else
(f_X12_atMost m_bounds a_behind a_ahead a_most (1 + (2 * (a_one (Int32.toNatClampNeg p1)))) (1 + (2 * (a_other (Int32.toNatClampNeg p1)))) 0).bind (fun q74 =>
(f_X12_atMost q74.1 q74.2.1 q74.2.2.1 q74.2.2.2 ((1 + (2 * (a_other (Int32.toNatClampNeg p1)))) + 1) ((1 + (2 * (a_one (Int32.toNatClampNeg p1)))) + 1) 0).bind (fun q75 =>
some (q75.1, q75.2.1, q75.2.2.1, q75.2.2.2))))))
def f_X12_gather_l7 (m_happenings : Int32) (a_many : Nat → Int32) (a_sort : Nat → Int32) (a_one : Nat → Int32) (a_other : Nat → Int32) (a_low : Nat → Int32) (a_high : Nat → Int32) (a_left : Nat → Int32) (u1 : Int32) (sg : Int32 × Int32 × (Nat → Int32) × (Nat → Int32) × (Nat → Int32)) : Option ((Int32 × Int32 × (Nat → Int32) × (Nat → Int32) × (Nat → Int32)) ⊕ (Int32 × Int32 × (Nat → Int32) × (Nat → Int32) × (Nat → Int32))) :=
if m_happenings ≤ sg.1 then
some (.inr (sg.1, sg.2.1, sg.2.2.1, sg.2.2.2.1, sg.2.2.2.2))
else
(f_X12_atMost sg.2.1 sg.2.2.1 sg.2.2.2.1 sg.2.2.2.2 (1 + (2 * sg.1)) 0 0).bind (fun q8 =>
(f_X12_atMost q8.1 q8.2.1 q8.2.2.1 q8.2.2.2 (2 + (2 * sg.1)) (1 + (2 * sg.1)) 0).bind (fun q9 =>
(f_X12_atMost q9.1 q9.2.1 q9.2.2.1 q9.2.2.2 0 (2 + (2 * sg.1)) 9999).bind (fun q10 =>
some (.inl (sg.1 + 1, q10.1, q10.2.1, q10.2.2.1, q10.2.2.2)))))
def f_X12_gather_l70 (m_happenings : Int32) (a_many : Nat → Int32) (a_sort : Nat → Int32) (a_one : Nat → Int32) (a_other : Nat → Int32) (a_low : Nat → Int32) (a_high : Nat → Int32) (a_left : Nat → Int32) (u1 : Int32) (u2 : Int32) (sg : Int32 × Int32 × (Nat → Int32) × (Nat → Int32) × (Nat → Int32)) : Option ((Int32 × Int32 × (Nat → Int32) × (Nat → Int32) × (Nat → Int32)) ⊕ (Int32 × Int32 × (Nat → Int32) × (Nat → Int32) × (Nat → Int32))) :=
gIn u2 7 (
if (a_many (Int32.toNatClampNeg u2)) ≤ sg.1 then
some (.inr (sg.1, sg.2.1, sg.2.2.1, sg.2.2.2.1, sg.2.2.2.2))
else
if ((u1 >>> (u2 &&& 31)) &&& 1) = 1 then
gIn ((12 * u2) + sg.1) 84 (
if (a_left (Int32.toNatClampNeg ((12 * u2) + sg.1))) = 0 then
(f_X12_say sg.2.1 a_sort a_one a_other a_low a_high sg.2.2.1 sg.2.2.2.1 sg.2.2.2.2 ((12 * u2) + sg.1)).bind (fun q18 =>
some (.inl (sg.1 + 1, q18.1, q18.2.1, q18.2.2.1, q18.2.2.2)))
else
some (.inl (sg.1 + 1, sg.2.1, sg.2.2.1, sg.2.2.2.1, sg.2.2.2.2)))
else
some (.inl (sg.1 + 1, sg.2.1, sg.2.2.1, sg.2.2.2.1, sg.2.2.2.2)))
def f_X12_gather_l62 (m_happenings : Int32) (a_many : Nat → Int32) (a_sort : Nat → Int32) (a_one : Nat → Int32) (a_other : Nat → Int32) (a_low : Nat → Int32) (a_high : Nat → Int32) (a_left : Nat → Int32) (u1 : Int32) (sg : Int32 × Int32 × (Nat → Int32) × (Nat → Int32) × (Nat → Int32)) : Option ((Int32 × Int32 × (Nat → Int32) × (Nat → Int32) × (Nat → Int32)) ⊕ (Int32 × Int32 × (Nat → Int32) × (Nat → Int32) × (Nat → Int32))) :=
if 6 ≤ sg.1 then
some (.inr (sg.1, sg.2.1, sg.2.2.1, sg.2.2.2.1, sg.2.2.2.2))
else
(lp (f_X12_gather_l70 m_happenings a_many a_sort a_one a_other a_low a_high a_left u1 sg.1) gFU (0, sg.2.1, sg.2.2.1, sg.2.2.2.1, sg.2.2.2.2)).bind (fun q19 =>
some (.inl (sg.1 + 1, q19.2.1, q19.2.2.1, q19.2.2.2.1, q19.2.2.2.2)))
def f_X12_gather (m_happenings : Int32) (m_bounds : Int32) (a_many : Nat → Int32) (a_sort : Nat → Int32) (a_one : Nat → Int32) (a_other : Nat → Int32) (a_low : Nat → Int32) (a_high : Nat → Int32) (a_behind : Nat → Int32) (a_ahead : Nat → Int32) (a_most : Nat → Int32) (a_left : Nat → Int32) (p1 : Int32) : Option (Int32 × (Nat → Int32) × (Nat → Int32) × (Nat → Int32)) :=
(lp (f_X12_gather_l7 m_happenings a_many a_sort a_one a_other a_low a_high a_left p1) gFU (0, 0, a_behind, a_ahead, a_most)).bind (fun q11 =>
(lp (f_X12_gather_l62 m_happenings a_many a_sort a_one a_other a_low a_high a_left p1) gFU (0, q11.2.1, q11.2.2.1, q11.2.2.2.1, q11.2.2.2.2)).bind (fun q20 =>
some (q20.2.1, q20.2.2.1, q20.2.2.2.1, q20.2.2.2.2)))
def f_X12_goes_b37 (m_happenings : Int32) (m_bounds : Int32) (a_behind : Nat → Int32) (a_ahead : Nat → Int32) (a_most : Nat → Int32) (a_far : Nat → Int32) (u1 : Int32) (u2 : Int32) (u3 : Int32) (w0 : Int32) (w1 : Int32) : Option ((Int32 × (Nat → Int32)) ⊕ (Int32 × (Nat → Int32))) :=
gIn w1 41 (
some (.inl (u3 + 1, upd a_far (Int32.toNatClampNeg w1) w0)))
def f_X12_goes_l11 (m_happenings : Int32) (m_bounds : Int32) (a_behind : Nat → Int32) (a_ahead : Nat → Int32) (a_most : Nat → Int32) (u1 : Int32) (u2 : Int32) (sg : Int32 × (Nat → Int32)) : Option ((Int32 × (Nat → Int32)) ⊕ (Int32 × (Nat → Int32))) :=
if u2 ≤ sg.1 then
some (.inr (sg.1, sg.2))
else
if u1 = (-1) then
f_X12_goes_b37 m_happenings m_bounds a_behind a_ahead a_most sg.2 u1 u2 sg.1 0 sg.1
else
if sg.1 = u1 then
f_X12_goes_b37 m_happenings m_bounds a_behind a_ahead a_most sg.2 u1 u2 sg.1 0 sg.1
else
f_X12_goes_b37 m_happenings m_bounds a_behind a_ahead a_most sg.2 u1 u2 sg.1 100000000 sg.1
def f_X12_goes_l57 (m_happenings : Int32) (m_bounds : Int32) (a_behind : Nat → Int32) (a_ahead : Nat → Int32) (a_most : Nat → Int32) (u2 : Int32) (u3 : Int32) (sg : Int32 × Int32 × (Nat → Int32)) : Option ((Int32 × Int32 × (Nat → Int32)) ⊕ (Int32 × Int32 × (Nat → Int32))) :=
if m_bounds ≤ sg.2.1 then
some (.inr (sg.1, sg.2.1, sg.2.2))
else
gIn sg.2.1 400 (
gIn (a_ahead (Int32.toNatClampNeg sg.2.1)) 41 (
if (sg.2.2 (Int32.toNatClampNeg (a_ahead (Int32.toNatClampNeg sg.2.1)))) = 100000000 then
some (.inl (sg.1, sg.2.1 + 1, sg.2.2))
else
gIn sg.2.1 400 (
gIn (a_ahead (Int32.toNatClampNeg sg.2.1)) 41 (
gIn sg.2.1 400 (
gIn sg.2.1 400 (
gIn (a_behind (Int32.toNatClampNeg sg.2.1)) 41 (
if ((sg.2.2 (Int32.toNatClampNeg (a_ahead (Int32.toNatClampNeg sg.2.1)))) + (a_most (Int32.toNatClampNeg sg.2.1))) < (sg.2.2 (Int32.toNatClampNeg (a_behind (Int32.toNatClampNeg sg.2.1)))) then
gIn sg.2.1 400 (
gIn sg.2.1 400 (
gIn (a_ahead (Int32.toNatClampNeg sg.2.1)) 41 (
gIn sg.2.1 400 (
gIn (a_behind (Int32.toNatClampNeg sg.2.1)) 41 (
some (.inl (1, sg.2.1 + 1, upd sg.2.2 (Int32.toNatClampNeg (a_behind (Int32.toNatClampNeg sg.2.1))) ((sg.2.2 (Int32.toNatClampNeg (a_ahead (Int32.toNatClampNeg sg.2.1)))) + (a_most (Int32.toNatClampNeg sg.2.1))))))))))
else
some (.inl (sg.1, sg.2.1 + 1, sg.2.2)))))))))
def f_X12_goes_l46 (m_happenings : Int32) (m_bounds : Int32) (a_behind : Nat → Int32) (a_ahead : Nat → Int32) (a_most : Nat → Int32) (u2 : Int32) (sg : Int32 × (Nat → Int32)) : Option ((Int32 × (Nat → Int32)) ⊕ ((Int32 × (Nat → Int32)) ⊕ (Int32 × (Nat → Int32)))) :=
if u2 < sg.1 then
some (.inr (.inl (sg.1, sg.2)))
else
(lp (f_X12_goes_l57 m_happenings m_bounds a_behind a_ahead a_most u2 sg.1) gFU (0, 0, sg.2)).bind (fun q35 =>
if q35.1 = 0 then
some (.inr (.inr (1, q35.2.2)))
else
some (.inl (sg.1 + 1, q35.2.2)))
def f_X12_goes (m_happenings : Int32) (m_bounds : Int32) (a_behind : Nat → Int32) (a_ahead : Nat → Int32) (a_most : Nat → Int32) (a_far : Nat → Int32) (p1 : Int32) : Option (Int32 × (Nat → Int32)) :=
(lp (f_X12_goes_l11 m_happenings m_bounds a_behind a_ahead a_most p1 (1 + (2 * m_happenings))) gFU (0, a_far)).bind (fun q18 =>
(lp (f_X12_goes_l46 m_happenings m_bounds a_behind a_ahead a_most (1 + (2 * m_happenings))) gFU (0, q18.2)).bind (fun q37 => Sum.elim (fun t38 =>
some (0, t38.2)) (fun r39 => some r39) q37))
def f_X12_hearAll_l2 (sg : Int32 × (Nat → Int32)) : Option ((Int32 × (Nat → Int32)) ⊕ (Int32 × (Nat → Int32))) :=
if 84 ≤ sg.1 then
some (.inr (sg.1, sg.2))
else
gIn sg.1 84 (
some (.inl (sg.1 + 1, upd sg.2 (Int32.toNatClampNeg sg.1) (vp_nar .boolean 0))))
def f_X12_hearAll (a_left : Nat → Int32) : Option ((Nat → Int32)) :=
(lp (f_X12_hearAll_l2) gFU (0, a_left)).bind (fun q4 =>
some q4.2)
def f_X12_isAgreed (m_happenings : Int32) (m_bounds : Int32) (a_many : Nat → Int32) (a_sort : Nat → Int32) (a_one : Nat → Int32) (a_other : Nat → Int32) (a_low : Nat → Int32) (a_high : Nat → Int32) (a_behind : Nat → Int32) (a_ahead : Nat → Int32) (a_most : Nat → Int32) (a_left : Nat → Int32) (a_far : Nat → Int32) (p1 : Int32) : Option (Int32 × Int32 × (Nat → Int32) × (Nat → Int32) × (Nat → Int32) × (Nat → Int32)) :=
(f_X12_gather m_happenings m_bounds a_many a_sort a_one a_other a_low a_high a_behind a_ahead a_most a_left p1).bind (fun q3 =>
(f_X12_goes m_happenings q3.1 q3.2.1 q3.2.2.1 q3.2.2.2 a_far (-1)).bind (fun q4 =>
gB q4.1 (
some (q4.1, q3.1, q3.2.1, q3.2.2.1, q3.2.2.2, q4.2))))
def f_X12_agree (m_thrown : Int32) (m_happenings : Int32) (m_heard : Int32) (m_bounds : Int32) (a_many : Nat → Int32) (a_sort : Nat → Int32) (a_one : Nat → Int32) (a_other : Nat → Int32) (a_low : Nat → Int32) (a_high : Nat → Int32) (a_behind : Nat → Int32) (a_ahead : Nat → Int32) (a_most : Nat → Int32) (a_left : Nat → Int32) (a_far : Nat → Int32) : Option (Int32 × Int32 × Int32 × (Nat → Int32) × (Nat → Int32) × (Nat → Int32) × (Nat → Int32) × (Nat → Int32)) :=
(f_X12_hearAll a_left).bind (fun q3 =>
(f_X12_isAgreed m_happenings m_bounds a_many a_sort a_one a_other a_low a_high a_behind a_ahead a_most q3 a_far m_heard).bind (fun q4 =>
if q4.1 = 0 then
some (0, 0, q4.2.1, q4.2.2.1, q4.2.2.2.1, q4.2.2.2.2.1, q3, q4.2.2.2.2.2)
else
some (1, 0, q4.2.1, q4.2.2.1, q4.2.2.2.1, q4.2.2.2.2.1, q3, q4.2.2.2.2.2)))
def f_X12_mostOf (m_happenings : Int32) (m_bounds : Int32) (a_behind : Nat → Int32) (a_ahead : Nat → Int32) (a_most : Nat → Int32) (a_far : Nat → Int32) (p1 : Int32) (p2 : Int32) : Option (Int32 × (Nat → Int32)) :=
(f_X12_goes m_happenings m_bounds a_behind a_ahead a_most a_far p1).bind (fun q3 =>
gIn p2 41 (
some (q3.2 (Int32.toNatClampNeg p2), q3.2)))
def f_X12_isHappening (m_happenings : Int32) (p1 : Int32) : Option (Int32) :=
if p1 < 0 then
some 0
else
if m_happenings ≤ p1 then
some 0
else
some 1
def f_X12_bound (m_thrown : Int32) (m_happenings : Int32) (m_heard : Int32) (m_bounds : Int32) (a_many : Nat → Int32) (a_sort : Nat → Int32) (a_one : Nat → Int32) (a_other : Nat → Int32) (a_low : Nat → Int32) (a_high : Nat → Int32) (a_behind : Nat → Int32) (a_ahead : Nat → Int32) (a_most : Nat → Int32) (a_left : Nat → Int32) (a_far : Nat → Int32) (p1 : Int32) (p2 : Int32) : Option (Int32 × Int32 × Int32 × (Nat → Int32) × (Nat → Int32) × (Nat → Int32) × (Nat → Int32) × (Nat → Int32)) :=
(f_X12_isHappening m_happenings p1).bind (fun q5 =>
if q5 = 0 then
some ((-1), 0, m_bounds, a_behind, a_ahead, a_most, a_left, a_far)
else
if p2 < 0 then
some ((-1), 0, m_bounds, a_behind, a_ahead, a_most, a_left, a_far)
else
if 3 < p2 then
some ((-1), 0, m_bounds, a_behind, a_ahead, a_most, a_left, a_far)
else
(f_X12_agree 0 m_happenings m_heard m_bounds a_many a_sort a_one a_other a_low a_high a_behind a_ahead a_most a_left a_far).bind (fun q9 =>
if q9.1 = 0 then
some ((-1), q9.2.1, q9.2.2.1, q9.2.2.2.1, q9.2.2.2.2.1, q9.2.2.2.2.2.1, q9.2.2.2.2.2.2.1, q9.2.2.2.2.2.2.2)
else
if (p2 - p2 / 2 * 2) = 0 then
(f_X12_mostOf m_happenings q9.2.2.1 q9.2.2.2.1 q9.2.2.2.2.1 q9.2.2.2.2.2.1 q9.2.2.2.2.2.2.2 ((1 + (2 * p1)) + (p2 / 2)) 0).bind (fun q13 =>
some (-q13.1, q9.2.1, q9.2.2.1, q9.2.2.2.1, q9.2.2.2.2.1, q9.2.2.2.2.2.1, q9.2.2.2.2.2.2.1, q13.2))
else
(f_X12_mostOf m_happenings q9.2.2.1 q9.2.2.2.1 q9.2.2.2.2.1 q9.2.2.2.2.2.1 q9.2.2.2.2.2.2.2 0 ((1 + (2 * p1)) + (p2 / 2))).bind (fun q12 =>
some (q12.1, q9.2.1, q9.2.2.1, q9.2.2.2.1, q9.2.2.2.2.1, q9.2.2.2.2.2.1, q9.2.2.2.2.2.2.1, q12.2))))
def f_X12_between_b23 (m_thrown : Int32) (m_happenings : Int32) (m_heard : Int32) (m_bounds : Int32) (a_many : Nat → Int32) (a_sort : Nat → Int32) (a_one : Nat → Int32) (a_other : Nat → Int32) (a_low : Nat → Int32) (a_high : Nat → Int32) (a_behind : Nat → Int32) (a_ahead : Nat → Int32) (a_most : Nat → Int32) (a_left : Nat → Int32) (a_far : Nat → Int32) : Option (Int32 × Int32 × Int32 × (Nat → Int32) × (Nat → Int32) × (Nat → Int32) × (Nat → Int32) × (Nat → Int32)) :=
(f_X12_refuse m_thrown 1).bind (fun q9 =>
some (q9.1, q9.2, m_bounds, a_behind, a_ahead, a_most, a_left, a_far))
def f_X12_between (m_thrown : Int32) (m_happenings : Int32) (m_heard : Int32) (m_bounds : Int32) (a_many : Nat → Int32) (a_sort : Nat → Int32) (a_one : Nat → Int32) (a_other : Nat → Int32) (a_low : Nat → Int32) (a_high : Nat → Int32) (a_behind : Nat → Int32) (a_ahead : Nat → Int32) (a_most : Nat → Int32) (a_left : Nat → Int32) (a_far : Nat → Int32) (p1 : Int32) (p2 : Int32) (p3 : Int32) : Option (Int32 × Int32 × Int32 × (Nat → Int32) × (Nat → Int32) × (Nat → Int32) × (Nat → Int32) × (Nat → Int32)) :=
(f_X12_isHappening m_happenings p1).bind (fun q7 =>
if q7 = 0 then
f_X12_between_b23 m_thrown m_happenings m_heard m_bounds a_many a_sort a_one a_other a_low a_high a_behind a_ahead a_most a_left a_far
else
(f_X12_isHappening m_happenings p2).bind (fun q10 =>
if q10 = 0 then
f_X12_between_b23 m_thrown m_happenings m_heard m_bounds a_many a_sort a_one a_other a_low a_high a_behind a_ahead a_most a_left a_far
else
(f_X12_agree m_thrown m_happenings m_heard m_bounds a_many a_sort a_one a_other a_low a_high a_behind a_ahead a_most a_left a_far).bind (fun q12 =>
if q12.1 = 0 then
f_X12_between_b23 q12.2.1 m_happenings m_heard q12.2.2.1 a_many a_sort a_one a_other a_low a_high q12.2.2.2.1 q12.2.2.2.2.1 q12.2.2.2.2.2.1 q12.2.2.2.2.2.2.1 q12.2.2.2.2.2.2.2
else
if p3 = 0 then
(f_X12_mostOf m_happenings q12.2.2.1 q12.2.2.2.1 q12.2.2.2.2.1 q12.2.2.2.2.2.1 q12.2.2.2.2.2.2.2 (1 + (2 * p2)) (2 + (2 * p1))).bind (fun q15 =>
some (-q15.1, 0, q12.2.2.1, q12.2.2.2.1, q12.2.2.2.2.1, q12.2.2.2.2.2.1, q12.2.2.2.2.2.2.1, q15.2))
else
(f_X12_mostOf m_happenings q12.2.2.1 q12.2.2.2.1 q12.2.2.2.2.1 q12.2.2.2.2.2.1 q12.2.2.2.2.2.2.2 (2 + (2 * p1)) (1 + (2 * p2))).bind (fun q16 =>
some (q16.1, 0, q12.2.2.1, q12.2.2.2.1, q12.2.2.2.2.1, q12.2.2.2.2.2.1, q12.2.2.2.2.2.2.1, q16.2)))))
def f_X12_order_b28 (m_thrown : Int32) (m_happenings : Int32) (m_heard : Int32) (m_bounds : Int32) (a_many : Nat → Int32) (a_sort : Nat → Int32) (a_one : Nat → Int32) (a_other : Nat → Int32) (a_low : Nat → Int32) (a_high : Nat → Int32) (a_behind : Nat → Int32) (a_ahead : Nat → Int32) (a_most : Nat → Int32) (a_left : Nat → Int32) (a_far : Nat → Int32) : Option (Int32 × Int32 × Int32 × (Nat → Int32) × (Nat → Int32) × (Nat → Int32) × (Nat → Int32) × (Nat → Int32)) :=
some ((-2), m_thrown, m_bounds, a_behind, a_ahead, a_most, a_left, a_far)
def f_X12_order (m_thrown : Int32) (m_happenings : Int32) (m_heard : Int32) (m_bounds : Int32) (a_many : Nat → Int32) (a_sort : Nat → Int32) (a_one : Nat → Int32) (a_other : Nat → Int32) (a_low : Nat → Int32) (a_high : Nat → Int32) (a_behind : Nat → Int32) (a_ahead : Nat → Int32) (a_most : Nat → Int32) (a_left : Nat → Int32) (a_far : Nat → Int32) (p1 : Int32) (p2 : Int32) : Option (Int32 × Int32 × Int32 × (Nat → Int32) × (Nat → Int32) × (Nat → Int32) × (Nat → Int32) × (Nat → Int32)) :=
(f_X12_isHappening m_happenings p1).bind (fun q6 =>
if q6 = 0 then
f_X12_order_b28 0 m_happenings m_heard m_bounds a_many a_sort a_one a_other a_low a_high a_behind a_ahead a_most a_left a_far
else
(f_X12_isHappening m_happenings p2).bind (fun q8 =>
if q8 = 0 then
f_X12_order_b28 0 m_happenings m_heard m_bounds a_many a_sort a_one a_other a_low a_high a_behind a_ahead a_most a_left a_far
else
(f_X12_agree 0 m_happenings m_heard m_bounds a_many a_sort a_one a_other a_low a_high a_behind a_ahead a_most a_left a_far).bind (fun q10 =>
if q10.1 = 0 then
f_X12_order_b28 q10.2.1 m_happenings m_heard q10.2.2.1 a_many a_sort a_one a_other a_low a_high q10.2.2.2.1 q10.2.2.2.2.1 q10.2.2.2.2.2.1 q10.2.2.2.2.2.2.1 q10.2.2.2.2.2.2.2
else
(f_X12_mostOf m_happenings q10.2.2.1 q10.2.2.2.1 q10.2.2.2.2.1 q10.2.2.2.2.2.1 q10.2.2.2.2.2.2.2 (1 + (2 * p2)) (2 + (2 * p1))).bind (fun q12 =>
if (-q12.1) ≤ 0 then
(f_X12_mostOf m_happenings q10.2.2.1 q10.2.2.2.1 q10.2.2.2.2.1 q10.2.2.2.2.2.1 q12.2 (2 + (2 * p1)) (1 + (2 * p2))).bind (fun q14 =>
if 0 < q14.1 then
some (0, q10.2.1, q10.2.2.1, q10.2.2.2.1, q10.2.2.2.2.1, q10.2.2.2.2.2.1, q10.2.2.2.2.2.2.1, q14.2)
else
some ((-1), q10.2.1, q10.2.2.1, q10.2.2.2.1, q10.2.2.2.2.1, q10.2.2.2.2.2.1, q10.2.2.2.2.2.2.1, q14.2))
else
some (1, q10.2.1, q10.2.2.1, q10.2.2.2.1, q10.2.2.2.2.1, q10.2.2.2.2.2.1, q10.2.2.2.2.2.2.1, q12.2)))))
def f_X12_try0_l29 (m_happenings : Int32) (m_heard : Int32) (a_many : Nat → Int32) (a_sort : Nat → Int32) (a_one : Nat → Int32) (a_other : Nat → Int32) (a_low : Nat → Int32) (a_high : Nat → Int32) (u2 : Int32) (sg : Int32 × Int32 × Int32 × (Nat → Int32) × (Nat → Int32) × (Nat → Int32) × (Nat → Int32) × (Nat → Int32) × (Nat → Int32)) : Option ((Int32 × Int32 × Int32 × (Nat → Int32) × (Nat → Int32) × (Nat → Int32) × (Nat → Int32) × (Nat → Int32) × (Nat → Int32)) ⊕ (Int32 × Int32 × Int32 × (Nat → Int32) × (Nat → Int32) × (Nat → Int32) × (Nat → Int32) × (Nat → Int32) × (Nat → Int32))) :=
gIn u2 7 (
if (a_many (Int32.toNatClampNeg u2)) ≤ sg.2.1 then
some (.inr (sg.1, sg.2.1, sg.2.2.1, sg.2.2.2.1, sg.2.2.2.2.1, sg.2.2.2.2.2.1, sg.2.2.2.2.2.2.1, sg.2.2.2.2.2.2.2.1, sg.2.2.2.2.2.2.2.2))
else
if ((m_heard >>> (u2 &&& 31)) &&& 1) = 0 then
some (.inl (sg.1, sg.2.1 + 1, sg.2.2.1, sg.2.2.2.1, sg.2.2.2.2.1, sg.2.2.2.2.2.1, sg.2.2.2.2.2.2.1, sg.2.2.2.2.2.2.2.1, sg.2.2.2.2.2.2.2.2))
else
gIn ((12 * u2) + sg.2.1) 84 (
(f_X12_isAgreed m_happenings sg.2.2.1 a_many a_sort a_one a_other a_low a_high sg.2.2.2.1 sg.2.2.2.2.1 sg.2.2.2.2.2.1 (upd sg.2.2.2.2.2.2.1 (Int32.toNatClampNeg ((12 * u2) + sg.2.1)) (vp_nar .boolean 1)) sg.2.2.2.2.2.2.2.1 m_heard).bind (fun q16 =>
if q16.1 = 0 then
some (.inl (sg.1, sg.2.1 + 1, q16.2.1, q16.2.2.1, q16.2.2.2.1, q16.2.2.2.2.1, upd sg.2.2.2.2.2.2.1 (Int32.toNatClampNeg ((12 * u2) + sg.2.1)) (vp_nar .boolean 1), q16.2.2.2.2.2, sg.2.2.2.2.2.2.2.2))
else
gIn ((12 * u2) + sg.2.1) 84 (
gIn sg.1 72 (
some (.inl (sg.1 + 1, sg.2.1 + 1, q16.2.1, q16.2.2.1, q16.2.2.2.1, q16.2.2.2.2.1, upd (upd sg.2.2.2.2.2.2.1 (Int32.toNatClampNeg ((12 * u2) + sg.2.1)) (vp_nar .boolean 1)) (Int32.toNatClampNeg ((12 * u2) + sg.2.1)) (vp_nar .boolean 0), q16.2.2.2.2.2, upd sg.2.2.2.2.2.2.2.2 (Int32.toNatClampNeg sg.1) ((100 * u2) + sg.2.1))))))))
def f_X12_try0_l21 (m_happenings : Int32) (m_heard : Int32) (a_many : Nat → Int32) (a_sort : Nat → Int32) (a_one : Nat → Int32) (a_other : Nat → Int32) (a_low : Nat → Int32) (a_high : Nat → Int32) (sg : Int32 × Int32 × Int32 × (Nat → Int32) × (Nat → Int32) × (Nat → Int32) × (Nat → Int32) × (Nat → Int32) × (Nat → Int32)) : Option ((Int32 × Int32 × Int32 × (Nat → Int32) × (Nat → Int32) × (Nat → Int32) × (Nat → Int32) × (Nat → Int32) × (Nat → Int32)) ⊕ (Int32 × Int32 × Int32 × (Nat → Int32) × (Nat → Int32) × (Nat → Int32) × (Nat → Int32) × (Nat → Int32) × (Nat → Int32))) :=
if 6 ≤ sg.2.1 then
some (.inr (sg.1, sg.2.1, sg.2.2.1, sg.2.2.2.1, sg.2.2.2.2.1, sg.2.2.2.2.2.1, sg.2.2.2.2.2.2.1, sg.2.2.2.2.2.2.2.1, sg.2.2.2.2.2.2.2.2))
else
(lp (f_X12_try0_l29 m_happenings m_heard a_many a_sort a_one a_other a_low a_high sg.2.1) gFU (sg.1, 0, sg.2.2.1, sg.2.2.2.1, sg.2.2.2.2.1, sg.2.2.2.2.2.1, sg.2.2.2.2.2.2.1, sg.2.2.2.2.2.2.2.1, sg.2.2.2.2.2.2.2.2)).bind (fun q20 =>
some (.inl (q20.1, sg.2.1 + 1, q20.2.2.1, q20.2.2.2.1, q20.2.2.2.2.1, q20.2.2.2.2.2.1, q20.2.2.2.2.2.2.1, q20.2.2.2.2.2.2.2.1, q20.2.2.2.2.2.2.2.2)))
def f_X12_try0 (m_happenings : Int32) (m_heard : Int32) (m_bounds : Int32) (a_many : Nat → Int32) (a_sort : Nat → Int32) (a_one : Nat → Int32) (a_other : Nat → Int32) (a_low : Nat → Int32) (a_high : Nat → Int32) (a_behind : Nat → Int32) (a_ahead : Nat → Int32) (a_most : Nat → Int32) (a_left : Nat → Int32) (a_far : Nat → Int32) (a_quarrel : Nat → Int32) : Option (Int32 × Int32 × (Nat → Int32) × (Nat → Int32) × (Nat → Int32) × (Nat → Int32) × (Nat → Int32) × (Nat → Int32)) :=
(f_X12_hearAll a_left).bind (fun q8 =>
(f_X12_isAgreed m_happenings m_bounds a_many a_sort a_one a_other a_low a_high a_behind a_ahead a_most q8 a_far m_heard).bind (fun q9 =>
if q9.1 = 0 then
(lp (f_X12_try0_l21 m_happenings m_heard a_many a_sort a_one a_other a_low a_high) gFU (0, 0, q9.2.1, q9.2.2.1, q9.2.2.2.1, q9.2.2.2.2.1, q8, q9.2.2.2.2.2, a_quarrel)).bind (fun q21 =>
some (q21.1, q21.2.2.1, q21.2.2.2.1, q21.2.2.2.2.1, q21.2.2.2.2.2.1, q21.2.2.2.2.2.2.1, q21.2.2.2.2.2.2.2.1, q21.2.2.2.2.2.2.2.2))
else
some (0, q9.2.1, q9.2.2.1, q9.2.2.2.1, q9.2.2.2.2.1, q8, q9.2.2.2.2.2, a_quarrel)))
def f_X12_quarrel (m_thrown : Int32) (m_happenings : Int32) (m_heard : Int32) (m_bounds : Int32) (a_many : Nat → Int32) (a_sort : Nat → Int32) (a_one : Nat → Int32) (a_other : Nat → Int32) (a_low : Nat → Int32) (a_high : Nat → Int32) (a_behind : Nat → Int32) (a_ahead : Nat → Int32) (a_most : Nat → Int32) (a_left : Nat → Int32) (a_far : Nat → Int32) (a_quarrel : Nat → Int32) : Option (Int32 × Int32 × Int32 × (Nat → Int32) × (Nat → Int32) × (Nat → Int32) × (Nat → Int32) × (Nat → Int32) × (Nat → Int32)) :=
(f_X12_try0 m_happenings m_heard m_bounds a_many a_sort a_one a_other a_low a_high a_behind a_ahead a_most a_left a_far a_quarrel).bind (fun q2 =>
some (q2.1, 0, q2.2.1, q2.2.2.1, q2.2.2.2.1, q2.2.2.2.2.1, q2.2.2.2.2.2.1, q2.2.2.2.2.2.2.1, q2.2.2.2.2.2.2.2))
def f_X12_quarrelled (m_thrown : Int32) (m_happenings : Int32) (m_heard : Int32) (m_bounds : Int32) (a_many : Nat → Int32) (a_sort : Nat → Int32) (a_one : Nat → Int32) (a_other : Nat → Int32) (a_low : Nat → Int32) (a_high : Nat → Int32) (a_behind : Nat → Int32) (a_ahead : Nat → Int32) (a_most : Nat → Int32) (a_left : Nat → Int32) (a_far : Nat → Int32) (a_quarrel : Nat → Int32) (p1 : Int32) : Option (Int32 × Int32 × Int32 × (Nat → Int32) × (Nat → Int32) × (Nat → Int32) × (Nat → Int32) × (Nat → Int32) × (Nat → Int32)) :=
(f_X12_try0 m_happenings m_heard m_bounds a_many a_sort a_one a_other a_low a_high a_behind a_ahead a_most a_left a_far a_quarrel).bind (fun q3 =>
if p1 < 0 then
some ((-1), 0, q3.2.1, q3.2.2.1, q3.2.2.2.1, q3.2.2.2.2.1, q3.2.2.2.2.2.1, q3.2.2.2.2.2.2.1, q3.2.2.2.2.2.2.2)
else
if p1 < q3.1 then
gIn p1 72 (
some (q3.2.2.2.2.2.2.2 (Int32.toNatClampNeg p1), 0, q3.2.1, q3.2.2.1, q3.2.2.2.1, q3.2.2.2.2.1, q3.2.2.2.2.2.1, q3.2.2.2.2.2.2.1, q3.2.2.2.2.2.2.2))
else
some ((-1), 0, q3.2.1, q3.2.2.1, q3.2.2.2.1, q3.2.2.2.2.1, q3.2.2.2.2.2.1, q3.2.2.2.2.2.2.1, q3.2.2.2.2.2.2.2))
def f_X12_bitsOf_l4 (u0 : Int32) (sg : Int32 × Int32) : Option ((Int32 × Int32) ⊕ (Int32 × Int32)) :=
if 6 ≤ sg.2 then
some (.inr (sg.1, sg.2))
else
some (.inl (sg.1 + ((u0 >>> (sg.2 &&& 31)) &&& 1), sg.2 + 1))
def f_X12_bitsOf (p0 : Int32) : Option (Int32) :=
(lp (f_X12_bitsOf_l4 p0) gFU (0, 0)).bind (fun q2 =>
some q2.1)
def f_X12_leave_l16 (m_thrown : Int32) (m_happenings : Int32) (m_heard : Int32) (a_many : Nat → Int32) (a_sort : Nat → Int32) (a_one : Nat → Int32) (a_other : Nat → Int32) (a_low : Nat → Int32) (a_high : Nat → Int32) (a_left : Nat → Int32) (sg : Int32 × Int32 × Int32 × (Nat → Int32) × (Nat → Int32) × (Nat → Int32) × (Nat → Int32)) : Option ((Int32 × Int32 × Int32 × (Nat → Int32) × (Nat → Int32) × (Nat → Int32) × (Nat → Int32)) ⊕ (Int32 × Int32 × Int32 × (Nat → Int32) × (Nat → Int32) × (Nat → Int32) × (Nat → Int32))) :=
if 64 ≤ sg.2.1 then
some (.inr (sg.1, sg.2.1, sg.2.2.1, sg.2.2.2.1, sg.2.2.2.2.1, sg.2.2.2.2.2.1, sg.2.2.2.2.2.2))
else
if (sg.2.1 &&& (m_heard ^^^ (-1))) = 0 then
(f_X12_bitsOf sg.2.1).bind (fun q8 =>
(f_X12_bitsOf sg.1).bind (fun q9 =>
if q9 ≤ q8 then
some (.inl (sg.1, sg.2.1 + 1, sg.2.2.1, sg.2.2.2.1, sg.2.2.2.2.1, sg.2.2.2.2.2.1, sg.2.2.2.2.2.2))
else
(f_X12_isAgreed m_happenings sg.2.2.1 a_many a_sort a_one a_other a_low a_high sg.2.2.2.1 sg.2.2.2.2.1 sg.2.2.2.2.2.1 a_left sg.2.2.2.2.2.2 (m_heard &&& (sg.2.1 ^^^ (-1)))).bind (fun q11 =>
if q11.1 = 0 then
some (.inl (sg.1, sg.2.1 + 1, q11.2.1, q11.2.2.1, q11.2.2.2.1, q11.2.2.2.2.1, q11.2.2.2.2.2))
else
some (.inl (sg.2.1, sg.2.1 + 1, q11.2.1, q11.2.2.1, q11.2.2.2.1, q11.2.2.2.2.1, q11.2.2.2.2.2)))))
else
some (.inl (sg.1, sg.2.1 + 1, sg.2.2.1, sg.2.2.2.1, sg.2.2.2.2.1, sg.2.2.2.2.2.1, sg.2.2.2.2.2.2))
def f_X12_leave (m_thrown : Int32) (m_happenings : Int32) (m_heard : Int32) (m_bounds : Int32) (a_many : Nat → Int32) (a_sort : Nat → Int32) (a_one : Nat → Int32) (a_other : Nat → Int32) (a_low : Nat → Int32) (a_high : Nat → Int32) (a_behind : Nat → Int32) (a_ahead : Nat → Int32) (a_most : Nat → Int32) (a_left : Nat → Int32) (a_far : Nat → Int32) : Option (Int32 × Int32 × Int32 × (Nat → Int32) × (Nat → Int32) × (Nat → Int32) × (Nat → Int32) × (Nat → Int32)) :=
(f_X12_hearAll a_left).bind (fun q5 =>
(lp (f_X12_leave_l16 0 m_happenings m_heard a_many a_sort a_one a_other a_low a_high q5) gFU (m_heard, 0, m_bounds, a_behind, a_ahead, a_most, a_far)).bind (fun q13 =>
some (q13.1, 0, q13.2.2.1, q13.2.2.2.1, q13.2.2.2.2.1, q13.2.2.2.2.2.1, q5, q13.2.2.2.2.2.2)))
def f_X12_needless_l96 (m_thrown : Int32) (m_happenings : Int32) (m_heard : Int32) (m_bounds : Int32) (a_many : Nat → Int32) (a_sort : Nat → Int32) (a_one : Nat → Int32) (a_other : Nat → Int32) (a_low : Nat → Int32) (a_high : Nat → Int32) (a_behind : Nat → Int32) (a_ahead : Nat → Int32) (a_most : Nat → Int32) (a_left : Nat → Int32) (u4 : Int32) (sg : Int32 × (Nat → Int32)) : Option ((Int32 × (Nat → Int32)) ⊕ ((Int32 × (Nat → Int32)) ⊕ (Int32 × Int32 × Int32 × (Nat → Int32) × (Nat → Int32) × (Nat → Int32) × (Nat → Int32) × (Nat → Int32)))) :=
if u4 ≤ sg.1 then
some (.inr (.inl (sg.1, sg.2)))
else
gIn sg.1 400 (
gIn sg.1 400 (
(f_X12_mostOf m_happenings m_bounds a_behind a_ahead a_most sg.2 (a_ahead (Int32.toNatClampNeg sg.1)) (a_behind (Int32.toNatClampNeg sg.1))).bind (fun q25 =>
gIn sg.1 400 (
if q25.1 ≤ (a_most (Int32.toNatClampNeg sg.1)) then
some (.inl (sg.1 + 1, q25.2))
else
some (.inr (.inr (0, m_thrown, m_bounds, a_behind, a_ahead, a_most, a_left, q25.2)))))))
def f_X12_needless (m_thrown : Int32) (m_happenings : Int32) (m_heard : Int32) (m_bounds : Int32) (a_many : Nat → Int32) (a_sort : Nat → Int32) (a_one : Nat → Int32) (a_other : Nat → Int32) (a_low : Nat → Int32) (a_high : Nat → Int32) (a_behind : Nat → Int32) (a_ahead : Nat → Int32) (a_most : Nat → Int32) (a_left : Nat → Int32) (a_far : Nat → Int32) (p1 : Int32) (p2 : Int32) : Option (Int32 × Int32 × Int32 × (Nat → Int32) × (Nat → Int32) × (Nat → Int32) × (Nat → Int32) × (Nat → Int32)) :=
(f_X12_isTeller p1).bind (fun q12 =>
if q12 = 0 then
(f_X12_refuse m_thrown 1).bind (fun q31 =>
some (q31.1, q31.2, m_bounds, a_behind, a_ahead, a_most, a_left, a_far))
else
(f_X12_isSaying a_many p1 p2).bind (fun q14 =>
if q14 = 0 then
some ((-1), 0, m_bounds, a_behind, a_ahead, a_most, a_left, a_far)
else
if ((m_heard >>> (p1 &&& 31)) &&& 1) = 0 then
some ((-1), 0, m_bounds, a_behind, a_ahead, a_most, a_left, a_far)
else
(f_X12_agree 0 m_happenings m_heard m_bounds a_many a_sort a_one a_other a_low a_high a_behind a_ahead a_most a_left a_far).bind (fun q17 =>
if q17.1 = 0 then
some ((-1), q17.2.1, q17.2.2.1, q17.2.2.2.1, q17.2.2.2.2.1, q17.2.2.2.2.2.1, q17.2.2.2.2.2.2.1, q17.2.2.2.2.2.2.2)
else
gIn ((12 * p1) + p2) 84 (
(f_X12_gather m_happenings q17.2.2.1 a_many a_sort a_one a_other a_low a_high q17.2.2.2.1 q17.2.2.2.2.1 q17.2.2.2.2.2.1 (upd q17.2.2.2.2.2.2.1 (Int32.toNatClampNeg ((12 * p1) + p2)) (vp_nar .boolean 1)) m_heard).bind (fun q20 =>
(f_X12_say q20.1 a_sort a_one a_other a_low a_high q20.2.1 q20.2.2.1 q20.2.2.2 ((12 * p1) + p2)).bind (fun q21 =>
(lp (f_X12_needless_l96 q17.2.1 m_happenings m_heard q20.1 a_many a_sort a_one a_other a_low a_high q21.2.1 q21.2.2.1 q21.2.2.2 (upd q17.2.2.2.2.2.2.1 (Int32.toNatClampNeg ((12 * p1) + p2)) (vp_nar .boolean 1)) q21.1) gFU (q20.1, q17.2.2.2.2.2.2.2)).bind (fun q28 => Sum.elim (fun t29 =>
some (1, q17.2.1, q20.1, q21.2.1, q21.2.2.1, q21.2.2.2, upd q17.2.2.2.2.2.2.1 (Int32.toNatClampNeg ((12 * p1) + p2)) (vp_nar .boolean 1), t29.2)) (fun r30 => some r30) q28)))))))
def f_X12_isAhead (a_early : Nat → Int32) (a_earlyLast : Nat → Int32) (p1 : Int32) (p2 : Int32) : Option (Int32) :=
gIn p1 20 (
gIn p2 20 (
if (a_early (Int32.toNatClampNeg p1)) = (a_early (Int32.toNatClampNeg p2)) then
gIn p1 20 (
gIn p2 20 (
if (a_earlyLast (Int32.toNatClampNeg p1)) = (a_earlyLast (Int32.toNatClampNeg p2)) then
if p2 ≤ p1 then
some 0
else
some 1
else
gIn p1 20 (
gIn p2 20 (
if (a_earlyLast (Int32.toNatClampNeg p2)) ≤ (a_earlyLast (Int32.toNatClampNeg p1)) then
some 0
else
some 1))))
else
gIn p1 20 (
gIn p2 20 (
if (a_early (Int32.toNatClampNeg p2)) ≤ (a_early (Int32.toNatClampNeg p1)) then
some 0
else
some 1))))
def f_X12_at_l28 (m_thrown : Int32) (m_happenings : Int32) (m_heard : Int32) (m_bounds : Int32) (a_many : Nat → Int32) (a_sort : Nat → Int32) (a_one : Nat → Int32) (a_other : Nat → Int32) (a_low : Nat → Int32) (a_high : Nat → Int32) (a_behind : Nat → Int32) (a_ahead : Nat → Int32) (a_most : Nat → Int32) (a_left : Nat → Int32) (u1 : Int32) (sg : Int32 × (Nat → Int32) × (Nat → Int32) × (Nat → Int32)) : Option ((Int32 × (Nat → Int32) × (Nat → Int32) × (Nat → Int32)) ⊕ (Int32 × (Nat → Int32) × (Nat → Int32) × (Nat → Int32))) :=
if m_happenings ≤ sg.1 then
some (.inr (sg.1, sg.2.1, sg.2.2.1, sg.2.2.2))
else
(f_X12_mostOf m_happenings m_bounds a_behind a_ahead a_most sg.2.1 (1 + (2 * sg.1)) 0).bind (fun q12 =>
gIn sg.1 20 (
(f_X12_mostOf m_happenings m_bounds a_behind a_ahead a_most q12.2 (2 + (2 * sg.1)) 0).bind (fun q14 =>
gIn sg.1 20 (
some (.inl (sg.1 + 1, q14.2, upd sg.2.2.1 (Int32.toNatClampNeg sg.1) (-q12.1), upd sg.2.2.2 (Int32.toNatClampNeg sg.1) (-q14.1)))))))
def f_X12_at_l91 (m_thrown : Int32) (m_happenings : Int32) (m_heard : Int32) (m_bounds : Int32) (a_many : Nat → Int32) (a_sort : Nat → Int32) (a_one : Nat → Int32) (a_other : Nat → Int32) (a_low : Nat → Int32) (a_high : Nat → Int32) (a_behind : Nat → Int32) (a_ahead : Nat → Int32) (a_most : Nat → Int32) (a_left : Nat → Int32) (a_far : Nat → Int32) (a_early : Nat → Int32) (a_earlyLast : Nat → Int32) (u1 : Int32) (u2 : Int32) (sg : Int32 × Int32) : Option ((Int32 × Int32) ⊕ (Int32 × Int32)) :=
if m_happenings ≤ sg.2 then
some (.inr (sg.1, sg.2))
else
if sg.2 = u2 then
some (.inl (sg.1, sg.2 + 1))
else
(f_X12_isAhead a_early a_earlyLast sg.2 u2).bind (fun q20 =>
if q20 = 0 then
some (.inl (sg.1, sg.2 + 1))
else
some (.inl (sg.1 + 1, sg.2 + 1)))
def f_X12_at_l78 (m_thrown : Int32) (m_happenings : Int32) (m_heard : Int32) (m_bounds : Int32) (a_many : Nat → Int32) (a_sort : Nat → Int32) (a_one : Nat → Int32) (a_other : Nat → Int32) (a_low : Nat → Int32) (a_high : Nat → Int32) (a_behind : Nat → Int32) (a_ahead : Nat → Int32) (a_most : Nat → Int32) (a_left : Nat → Int32) (a_far : Nat → Int32) (a_early : Nat → Int32) (a_earlyLast : Nat → Int32) (u1 : Int32) (sg : Int32) : Option ((Int32) ⊕ ((Int32) ⊕ (Int32 × Int32 × Int32 × (Nat → Int32) × (Nat → Int32) × (Nat → Int32) × (Nat → Int32) × (Nat → Int32) × (Nat → Int32) × (Nat → Int32)))) :=
if m_happenings ≤ sg then
some (.inr (.inl sg))
else
(lp (f_X12_at_l91 m_thrown m_happenings m_heard m_bounds a_many a_sort a_one a_other a_low a_high a_behind a_ahead a_most a_left a_far a_early a_earlyLast u1 sg) gFU (0, 0)).bind (fun q22 =>
if q22.1 = u1 then
some (.inr (.inr (sg, m_thrown, m_bounds, a_behind, a_ahead, a_most, a_left, a_far, a_early, a_earlyLast)))
else
some (.inl (sg + 1)))
def f_X12_at (m_thrown : Int32) (m_happenings : Int32) (m_heard : Int32) (m_bounds : Int32) (a_many : Nat → Int32) (a_sort : Nat → Int32) (a_one : Nat → Int32) (a_other : Nat → Int32) (a_low : Nat → Int32) (a_high : Nat → Int32) (a_behind : Nat → Int32) (a_ahead : Nat → Int32) (a_most : Nat → Int32) (a_left : Nat → Int32) (a_far : Nat → Int32) (a_early : Nat → Int32) (a_earlyLast : Nat → Int32) (p1 : Int32) : Option (Int32 × Int32 × Int32 × (Nat → Int32) × (Nat → Int32) × (Nat → Int32) × (Nat → Int32) × (Nat → Int32) × (Nat → Int32) × (Nat → Int32)) :=
if p1 < 0 then
some ((-1), 0, m_bounds, a_behind, a_ahead, a_most, a_left, a_far, a_early, a_earlyLast)
else
if m_happenings ≤ p1 then
some ((-1), 0, m_bounds, a_behind, a_ahead, a_most, a_left, a_far, a_early, a_earlyLast)
else
(f_X12_agree 0 m_happenings m_heard m_bounds a_many a_sort a_one a_other a_low a_high a_behind a_ahead a_most a_left a_far).bind (fun q9 =>
if q9.1 = 0 then
some ((-1), q9.2.1, q9.2.2.1, q9.2.2.2.1, q9.2.2.2.2.1, q9.2.2.2.2.2.1, q9.2.2.2.2.2.2.1, q9.2.2.2.2.2.2.2, a_early, a_earlyLast)
else
(lp (f_X12_at_l28 q9.2.1 m_happenings m_heard q9.2.2.1 a_many a_sort a_one a_other a_low a_high q9.2.2.2.1 q9.2.2.2.2.1 q9.2.2.2.2.2.1 q9.2.2.2.2.2.2.1 p1) gFU (0, q9.2.2.2.2.2.2.2, a_early, a_earlyLast)).bind (fun q16 =>
(lp (f_X12_at_l78 q9.2.1 m_happenings m_heard q9.2.2.1 a_many a_sort a_one a_other a_low a_high q9.2.2.2.1 q9.2.2.2.2.1 q9.2.2.2.2.2.1 q9.2.2.2.2.2.2.1 q16.2.1 q16.2.2.1 q16.2.2.2 p1) gFU 0).bind (fun q24 => Sum.elim (fun t25 =>
some ((-1), q9.2.1, q9.2.2.1, q9.2.2.2.1, q9.2.2.2.2.1, q9.2.2.2.2.2.1, q9.2.2.2.2.2.2.1, q16.2.1, q16.2.2.1, q16.2.2.2)) (fun r26 => some r26) q24)))
def f_X12_sayings (m_thrown : Int32) (a_many : Nat → Int32) (p1 : Int32) : Option (Int32 × Int32) :=
(f_X12_isTeller p1).bind (fun q4 =>
if q4 = 0 then
(f_X12_refuse m_thrown 1).bind (fun q7 =>
some (q7.1, q7.2))
else
gIn p1 7 (
some (a_many (Int32.toNatClampNeg p1), 0)))
def f_X12_count_l9 (m_thrown : Int32) (m_taped : Int32) (m_happenings : Int32) (m_heard : Int32) (m_outs : Int32) (a_many : Nat → Int32) (u1 : Int32) (sg : Int32 × Int32) : Option ((Int32 × Int32) ⊕ (Int32 × Int32)) :=
if 6 ≤ sg.2 then
some (.inr (sg.1, sg.2))
else
gIn sg.2 7 (
some (.inl (sg.1 + (a_many (Int32.toNatClampNeg sg.2)), sg.2 + 1)))
def f_X12_count (m_thrown : Int32) (m_taped : Int32) (m_happenings : Int32) (m_heard : Int32) (m_outs : Int32) (a_many : Nat → Int32) (p1 : Int32) : Option (Int32 × Int32) :=
(lp (f_X12_count_l9 0 m_taped m_happenings m_heard m_outs a_many p1) gFU (0, 0)).bind (fun q4 =>
if p1 = 0 then
some (m_happenings, 0)
else
if p1 = 1 then
some (q4.1, 0)
else
if p1 = 2 then
some (m_heard, 0)
else
if p1 = 3 then
some (m_taped, 0)
else
if p1 = 4 then
some (m_outs, 0)
else
some ((-1), 0))
