/-! what the class computes, by program out of its bytecode -/
def f_J6_compare_7cf53 (p0 : Int32) (p1 : Int32) : Option (Int32) :=
if p1 ≤ p0 then
if p0 = p1 then
some 0
else
some 1
else
some (-1)
def f_J6_bitCount_0f7a4 (p0 : Int32) : Option (Int32) :=
some ((((((((p0 - (((p0.toUInt32 >>> (Int32.toUInt32 1 &&& Int32.toUInt32 31)).toInt32) &&& 1431655765)) &&& 858993459) + ((((p0 - (((p0.toUInt32 >>> (Int32.toUInt32 1 &&& Int32.toUInt32 31)).toInt32) &&& 1431655765)).toUInt32 >>> (Int32.toUInt32 2 &&& Int32.toUInt32 31)).toInt32) &&& 858993459)) + (((((p0 - (((p0.toUInt32 >>> (Int32.toUInt32 1 &&& Int32.toUInt32 31)).toInt32) &&& 1431655765)) &&& 858993459) + ((((p0 - (((p0.toUInt32 >>> (Int32.toUInt32 1 &&& Int32.toUInt32 31)).toInt32) &&& 1431655765)).toUInt32 >>> (Int32.toUInt32 2 &&& Int32.toUInt32 31)).toInt32) &&& 858993459)).toUInt32 >>> (Int32.toUInt32 4 &&& Int32.toUInt32 31)).toInt32)) &&& 252645135) + (((((((p0 - (((p0.toUInt32 >>> (Int32.toUInt32 1 &&& Int32.toUInt32 31)).toInt32) &&& 1431655765)) &&& 858993459) + ((((p0 - (((p0.toUInt32 >>> (Int32.toUInt32 1 &&& Int32.toUInt32 31)).toInt32) &&& 1431655765)).toUInt32 >>> (Int32.toUInt32 2 &&& Int32.toUInt32 31)).toInt32) &&& 858993459)) + (((((p0 - (((p0.toUInt32 >>> (Int32.toUInt32 1 &&& Int32.toUInt32 31)).toInt32) &&& 1431655765)) &&& 858993459) + ((((p0 - (((p0.toUInt32 >>> (Int32.toUInt32 1 &&& Int32.toUInt32 31)).toInt32) &&& 1431655765)).toUInt32 >>> (Int32.toUInt32 2 &&& Int32.toUInt32 31)).toInt32) &&& 858993459)).toUInt32 >>> (Int32.toUInt32 4 &&& Int32.toUInt32 31)).toInt32)) &&& 252645135).toUInt32 >>> (Int32.toUInt32 8 &&& Int32.toUInt32 31)).toInt32)) + ((((((((p0 - (((p0.toUInt32 >>> (Int32.toUInt32 1 &&& Int32.toUInt32 31)).toInt32) &&& 1431655765)) &&& 858993459) + ((((p0 - (((p0.toUInt32 >>> (Int32.toUInt32 1 &&& Int32.toUInt32 31)).toInt32) &&& 1431655765)).toUInt32 >>> (Int32.toUInt32 2 &&& Int32.toUInt32 31)).toInt32) &&& 858993459)) + (((((p0 - (((p0.toUInt32 >>> (Int32.toUInt32 1 &&& Int32.toUInt32 31)).toInt32) &&& 1431655765)) &&& 858993459) + ((((p0 - (((p0.toUInt32 >>> (Int32.toUInt32 1 &&& Int32.toUInt32 31)).toInt32) &&& 1431655765)).toUInt32 >>> (Int32.toUInt32 2 &&& Int32.toUInt32 31)).toInt32) &&& 858993459)).toUInt32 >>> (Int32.toUInt32 4 &&& Int32.toUInt32 31)).toInt32)) &&& 252645135) + (((((((p0 - (((p0.toUInt32 >>> (Int32.toUInt32 1 &&& Int32.toUInt32 31)).toInt32) &&& 1431655765)) &&& 858993459) + ((((p0 - (((p0.toUInt32 >>> (Int32.toUInt32 1 &&& Int32.toUInt32 31)).toInt32) &&& 1431655765)).toUInt32 >>> (Int32.toUInt32 2 &&& Int32.toUInt32 31)).toInt32) &&& 858993459)) + (((((p0 - (((p0.toUInt32 >>> (Int32.toUInt32 1 &&& Int32.toUInt32 31)).toInt32) &&& 1431655765)) &&& 858993459) + ((((p0 - (((p0.toUInt32 >>> (Int32.toUInt32 1 &&& Int32.toUInt32 31)).toInt32) &&& 1431655765)).toUInt32 >>> (Int32.toUInt32 2 &&& Int32.toUInt32 31)).toInt32) &&& 858993459)).toUInt32 >>> (Int32.toUInt32 4 &&& Int32.toUInt32 31)).toInt32)) &&& 252645135).toUInt32 >>> (Int32.toUInt32 8 &&& Int32.toUInt32 31)).toInt32)).toUInt32 >>> (Int32.toUInt32 16 &&& Int32.toUInt32 31)).toInt32)) &&& 63)
def f_Jx29ce0_ordinal_8abf5 (p0 : Nat) : Option (Int32) :=
gN p0 13 (
some (tkO p0))
def f_J0_coder_7d493 (p0 : Nat) : Option (Int32) :=
if (1 : Int32) = 0 then
some 1
else
gN p0 13 (
some 0)
def f_J0_isLatin1_aae02 (p0 : Nat) : Option (Int32) :=
if (1 : Int32) = 0 then
some 0
else
gN p0 13 (
if (0 : Int32) = 0 then
some 1
else
some 0)
def f_J0_length_8abf5 (p0 : Nat) : Option (Int32) :=
gN p0 13 (
(f_J0_coder_7d493 p0).bind (fun q6 =>
some ((nI (strN p0)) >>> (q6 &&& 31))))
def f_J3_checkIndex_8e157_b9 (u0 : Int32) (u1 : Int32) : Option (Int32) :=
none
def f_J3_checkIndex_8e157 (p0 : Int32) (p1 : Int32) : Option (Int32) :=
if p0 < 0 then
f_J3_checkIndex_8e157_b9 p0 p1
else
if p0 < p1 then
some p0
else
f_J3_checkIndex_8e157_b9 p0 p1
def f_J0_checkIndex_df160 (p0 : Int32) (p1 : Int32) : Option (Unit) :=
(f_J3_checkIndex_8e157 p0 p1).bind (fun q4 =>
some ())
def f_J1_charAt_3b067 (p0 : Nat) (p1 : Int32) : Option (Int32) :=
gN p0 13 (
(f_J0_checkIndex_df160 p1 (nI (strN p0))).bind (fun q6 =>
gIn p1 (strN p0) (
gCh ((Int32.toUInt32 ((strB p0 (Int32.toNatClampNeg p1)) &&& 255) % 65536).toInt32) (
some ((Int32.toUInt32 ((strB p0 (Int32.toNatClampNeg p1)) &&& 255) % 65536).toInt32)))))
def f_J0_charAt_5068e (p0 : Nat) (p1 : Int32) : Option (Int32) :=
gN p0 13 (
(f_J0_isLatin1_aae02 p0).bind (fun q7 =>
if q7 = 0 then
gN p0 13 (
none)
else
gN p0 13 (
(f_J1_charAt_3b067 p0 p1).bind (fun q11 =>
gCh q11 (
some q11)))))
def f_X2_add14 (m_lsize : Int32) (a_tails : Nat → Int32) (a_heads : Nat → Int32) (a_gaps : Nat → Int32) (p1 : Int32) (p2 : Int32) (p3 : Int32) : Option (Int32 × (Nat → Int32) × (Nat → Int32) × (Nat → Int32)) :=
if 348 ≤ m_lsize then
some (m_lsize, a_tails, a_heads, a_gaps)
else
gIn m_lsize 348 (
gIn m_lsize 348 (
gIn m_lsize 348 (
some (m_lsize + 1, upd a_tails (Int32.toNatClampNeg m_lsize) p1, upd a_heads (Int32.toNatClampNeg m_lsize) p2, upd a_gaps (Int32.toNatClampNeg m_lsize) p3))))
def f_X2_add19 (m_csize : Int32) (a_ctails : Nat → Int32) (a_cheads : Nat → Int32) (a_cgaps : Nat → Int32) (p1 : Int32) (p2 : Int32) (p3 : Int32) : Option (Int32 × (Nat → Int32) × (Nat → Int32) × (Nat → Int32)) :=
if 4 ≤ m_csize then
some (m_csize, a_ctails, a_cheads, a_cgaps)
else
gIn m_csize 4 (
gIn m_csize 4 (
gIn m_csize 4 (
some (m_csize + 1, upd a_ctails (Int32.toNatClampNeg m_csize) p1, upd a_cheads (Int32.toNatClampNeg m_csize) p2, upd a_cgaps (Int32.toNatClampNeg m_csize) p3))))
def f_X7_putNumber_l3 (u1 : Int32) (sg : Int32 × Int32 × (Nat → Int32)) : Option ((Int32 × Int32 × (Nat → Int32)) ⊕ (Int32 × Int32 × (Nat → Int32))) :=
if sg.1 < 0 then
some (.inr (sg.1, sg.2.1, sg.2.2))
else
if 440 ≤ sg.2.1 then
some (.inl (sg.1 + (-8), sg.2.1, sg.2.2))
else
gIn sg.2.1 440 (
some (.inl (sg.1 + (-8), sg.2.1 + 1, upd sg.2.2 (Int32.toNatClampNeg sg.2.1) (vp_nar .byte ((u1 >>> (sg.1 &&& 31)).toInt8.toInt32)))))
def f_X7_putNumber (m_tlen : Int32) (a_bytes : Nat → Int32) (p1 : Int32) : Option (Int32 × (Nat → Int32)) :=
(lp (f_X7_putNumber_l3 p1) gFU (24, m_tlen, a_bytes)).bind (fun q5 =>
some (q5.2.1, q5.2.2))
def f_X7_isBlank (a_bytes : Nat → Int32) (p1 : Int32) : Option (Int32) :=
gIn p1 440 (
if (a_bytes (Int32.toNatClampNeg p1)) = 32 then
some 1
else
gIn p1 440 (
if (a_bytes (Int32.toNatClampNeg p1)) = 10 then
some 1
else
some 0))
def f_X7_isLetter (a_bytes : Nat → Int32) (p1 : Int32) : Option (Int32) :=
gIn p1 440 (
if (a_bytes (Int32.toNatClampNeg p1)) < 97 then
some 0
else
gIn p1 440 (
if 122 < (a_bytes (Int32.toNatClampNeg p1)) then
some 0
else
some 1))
def f_X7_isDigit (a_bytes : Nat → Int32) (p1 : Int32) : Option (Int32) :=
gIn p1 440 (
if (a_bytes (Int32.toNatClampNeg p1)) < 48 then
some 0
else
gIn p1 440 (
if 57 < (a_bytes (Int32.toNatClampNeg p1)) then
some 0
else
some 1))
def f_X7_firstSolid_l2 (m_tlen : Int32) (a_bytes : Nat → Int32) (sg : Int32) : Option ((Int32) ⊕ ((Int32) ⊕ (Int32))) :=
if m_tlen ≤ sg then
some (.inr (.inl sg))
else
(f_X7_isBlank a_bytes sg).bind (fun q3 =>
if q3 = 0 then
some (.inr (.inr sg))
else
some (.inl (sg + 1)))
def f_X7_firstSolid (m_tlen : Int32) (a_bytes : Nat → Int32) : Option (Int32) :=
(lp (f_X7_firstSolid_l2 m_tlen a_bytes) gFU 0).bind (fun q5 => Sum.elim (fun t6 =>
some m_tlen) (fun r7 => some r7) q5)
def f_X7_afterSolid_l5 (m_tlen : Int32) (a_bytes : Nat → Int32) (u1 : Int32) (sg : Int32) : Option ((Int32) ⊕ ((Int32) ⊕ (Int32))) :=
if sg ≤ u1 then
some (.inr (.inl sg))
else
(f_X7_isBlank a_bytes (sg - 1)).bind (fun q3 =>
if q3 = 0 then
some (.inr (.inr sg))
else
some (.inl (sg + (-1))))
def f_X7_afterSolid (m_tlen : Int32) (a_bytes : Nat → Int32) (p1 : Int32) : Option (Int32) :=
(lp (f_X7_afterSolid_l5 m_tlen a_bytes p1) gFU m_tlen).bind (fun q5 => Sum.elim (fun t6 =>
some p1) (fun r7 => some r7) q5)
def f_X3_has (m_nsize : Int32) (p1 : Int32) : Option (Int32) :=
if p1 < 0 then
some 0
else
if m_nsize ≤ p1 then
some 0
else
some 1
def f_X3_letter (a_letters : Nat → Int32) (p1 : Int32) (p2 : Int32) : Option (Int32) :=
gIn ((p1 * 8) + p2) 160 (
some (a_letters (Int32.toNatClampNeg ((p1 * 8) + p2))))
def f_X3_isSpelled_l3 (a_bytes : Nat → Int32) (a_letters : Nat → Int32) (a_nlen : Nat → Int32) (u1 : Int32) (u3 : Int32) (sg : Int32) : Option ((Int32) ⊕ ((Int32) ⊕ (Int32))) :=
gIn u1 20 (
if (a_nlen (Int32.toNatClampNeg u1)) ≤ sg then
some (.inr (.inl sg))
else
gIn (u3 + sg) 440 (
gIn ((u1 * 8) + sg) 160 (
if (a_bytes (Int32.toNatClampNeg (u3 + sg))) = (a_letters (Int32.toNatClampNeg ((u1 * 8) + sg))) then
some (.inl (sg + 1))
else
some (.inr (.inr 0)))))
def f_X3_isSpelled (a_bytes : Nat → Int32) (a_letters : Nat → Int32) (a_nlen : Nat → Int32) (p1 : Int32) (p3 : Int32) : Option (Int32) :=
(lp (f_X3_isSpelled_l3 a_bytes a_letters a_nlen p1 p3) gFU 0).bind (fun q9 => Sum.elim (fun t10 =>
some 1) (fun r11 => some r11) q9)
def f_X3_find_l3 (a_bytes : Nat → Int32) (m_drafted : Int32) (a_letters : Nat → Int32) (a_nlen : Nat → Int32) (u2 : Int32) (u3 : Int32) (sg : Int32) : Option ((Int32) ⊕ ((Int32) ⊕ (Int32))) :=
if m_drafted ≤ sg then
some (.inr (.inl sg))
else
gIn sg 20 (
if (a_nlen (Int32.toNatClampNeg sg)) = u3 then
(f_X3_isSpelled a_bytes a_letters a_nlen sg u2).bind (fun q6 =>
if q6 = 0 then
some (.inl (sg + 1))
else
some (.inr (.inr sg)))
else
some (.inl (sg + 1)))
def f_X3_find (a_bytes : Nat → Int32) (m_drafted : Int32) (a_letters : Nat → Int32) (a_nlen : Nat → Int32) (p2 : Int32) (p3 : Int32) : Option (Int32) :=
(lp (f_X3_find_l3 a_bytes m_drafted a_letters a_nlen p2 p3) gFU 0).bind (fun q8 => Sum.elim (fun t9 =>
some (-1)) (fun r10 => some r10) q8)
def f_X3_findOrDraft_b30 (a_bytes : Nat → Int32) (m_drafted : Int32) (a_letters : Nat → Int32) (a_nlen : Nat → Int32) (u4 : Int32) : Option (Int32 × Int32 × (Nat → Int32) × (Nat → Int32)) :=
some (u4, m_drafted, a_letters, a_nlen)
def f_X3_findOrDraft_l36 (a_bytes : Nat → Int32) (m_drafted : Int32) (a_nlen : Nat → Int32) (u2 : Int32) (u3 : Int32) (sg : Int32 × (Nat → Int32)) : Option ((Int32 × (Nat → Int32)) ⊕ (Int32 × (Nat → Int32))) :=
if u3 ≤ sg.1 then
some (.inr (sg.1, sg.2))
else
gIn (u2 + sg.1) 440 (
gIn ((m_drafted * 8) + sg.1) 160 (
some (.inl (sg.1 + 1, upd sg.2 (Int32.toNatClampNeg ((m_drafted * 8) + sg.1)) (vp_nar .byte (a_bytes (Int32.toNatClampNeg (u2 + sg.1))))))))
def f_X3_findOrDraft (a_bytes : Nat → Int32) (m_drafted : Int32) (a_letters : Nat → Int32) (a_nlen : Nat → Int32) (p2 : Int32) (p3 : Int32) : Option (Int32 × Int32 × (Nat → Int32) × (Nat → Int32)) :=
(f_X3_find a_bytes m_drafted a_letters a_nlen p2 p3).bind (fun q5 =>
if q5 = (-1) then
if 20 ≤ m_drafted then
f_X3_findOrDraft_b30 a_bytes m_drafted a_letters a_nlen q5
else
if p3 ≤ 8 then
(lp (f_X3_findOrDraft_l36 a_bytes m_drafted a_nlen p2 p3) gFU (0, a_letters)).bind (fun q12 =>
gIn m_drafted 20 (
some ((m_drafted + 1) - 1, m_drafted + 1, q12.2, upd a_nlen (Int32.toNatClampNeg m_drafted) p3)))
else
f_X3_findOrDraft_b30 a_bytes m_drafted a_letters a_nlen q5
else
f_X3_findOrDraft_b30 a_bytes m_drafted a_letters a_nlen q5)
def f_X3_settle (m_nsize : Int32) (m_drafted : Int32) (p1 : Int32) : Option (Int32 × Int32) :=
if p1 = 0 then
some (m_nsize, m_nsize)
else
some (m_drafted, m_drafted)
def f_X4_firstOf (p0 : Int32) : Option (Int32) :=
some (1 + (2 * p0))
def f_X4_lastOf (p0 : Int32) : Option (Int32) :=
some (2 + (2 * p0))
def f_X4_open_l24 (m_nodes : Int32) (u1 : Int32) (sg : Int32 × Int32 × (Nat → Int32) × (Nat → Int32) × (Nat → Int32)) : Option ((Int32 × Int32 × (Nat → Int32) × (Nat → Int32) × (Nat → Int32)) ⊕ (Int32 × Int32 × (Nat → Int32) × (Nat → Int32) × (Nat → Int32))) :=
if u1 ≤ sg.1 then
some (.inr (sg.1, sg.2.1, sg.2.2.1, sg.2.2.2.1, sg.2.2.2.2))
else
(f_X4_firstOf sg.1).bind (fun q9 =>
(f_X2_add14 sg.2.1 sg.2.2.1 sg.2.2.2.1 sg.2.2.2.2 0 q9 0).bind (fun q10 =>
(f_X4_firstOf sg.1).bind (fun q11 =>
(f_X4_lastOf sg.1).bind (fun q12 =>
(f_X2_add14 q10.1 q10.2.1 q10.2.2.1 q10.2.2.2 q11 q12 0).bind (fun q13 =>
(f_X4_lastOf sg.1).bind (fun q14 =>
(f_X2_add14 q13.1 q13.2.1 q13.2.2.1 q13.2.2.2 q14 0 (-9999)).bind (fun q15 =>
some (.inl (sg.1 + 1, q15.1, q15.2.1, q15.2.2.1, q15.2.2.2)))))))))
def f_X4_open (m_nodes : Int32) (m_lsize : Int32) (a_tails : Nat → Int32) (a_heads : Nat → Int32) (a_gaps : Nat → Int32) (p1 : Int32) : Option (Int32 × Int32 × (Nat → Int32) × (Nat → Int32) × (Nat → Int32)) :=
(lp (f_X4_open_l24 (1 + (2 * (if 20 < p1 then 20 else p1))) p1) gFU (0, 0, a_tails, a_heads, a_gaps)).bind (fun q16 =>
some (1 + (2 * (if 20 < p1 then 20 else p1)), q16.2.1, q16.2.2.1, q16.2.2.2.1, q16.2.2.2.2))
def f_X4_pushAll_l4 (m_lsize : Int32) (a_tails : Nat → Int32) (a_heads : Nat → Int32) (a_gaps : Nat → Int32) (sg : Int32 × Int32 × (Nat → Int32)) : Option ((Int32 × Int32 × (Nat → Int32)) ⊕ (Int32 × Int32 × (Nat → Int32))) :=
if m_lsize ≤ sg.2.1 then
some (.inr (sg.1, sg.2.1, sg.2.2))
else
gIn sg.2.1 348 (
gIn (a_tails (Int32.toNatClampNeg sg.2.1)) 41 (
if (sg.2.2 (Int32.toNatClampNeg (a_tails (Int32.toNatClampNeg sg.2.1)))) = (-1000000000) then
some (.inl (sg.1, sg.2.1 + 1, sg.2.2))
else
gIn sg.2.1 348 (
gIn sg.2.1 348 (
gIn (a_heads (Int32.toNatClampNeg sg.2.1)) 41 (
if ((sg.2.2 (Int32.toNatClampNeg (a_tails (Int32.toNatClampNeg sg.2.1)))) + (a_gaps (Int32.toNatClampNeg sg.2.1))) ≤ (sg.2.2 (Int32.toNatClampNeg (a_heads (Int32.toNatClampNeg sg.2.1)))) then
some (.inl (sg.1, sg.2.1 + 1, sg.2.2))
else
gIn sg.2.1 348 (
gIn sg.2.1 348 (
gIn (a_heads (Int32.toNatClampNeg sg.2.1)) 41 (
some (.inl (1, sg.2.1 + 1, upd sg.2.2 (Int32.toNatClampNeg (a_heads (Int32.toNatClampNeg sg.2.1))) ((sg.2.2 (Int32.toNatClampNeg (a_tails (Int32.toNatClampNeg sg.2.1)))) + (a_gaps (Int32.toNatClampNeg sg.2.1)))))))))))))
def f_X4_pushAll (m_lsize : Int32) (a_tails : Nat → Int32) (a_heads : Nat → Int32) (a_gaps : Nat → Int32) (a_least : Nat → Int32) : Option (Int32 × (Nat → Int32)) :=
(lp (f_X4_pushAll_l4 m_lsize a_tails a_heads a_gaps) gFU (0, 0, a_least)).bind (fun q20 =>
gB q20.1 (
some (q20.1, q20.2.2)))
def f_X4_measureFrom_l2 (m_nodes : Int32) (m_lsize : Int32) (a_tails : Nat → Int32) (a_heads : Nat → Int32) (a_gaps : Nat → Int32) (u1 : Int32) (sg : Int32 × (Nat → Int32)) : Option ((Int32 × (Nat → Int32)) ⊕ (Int32 × (Nat → Int32))) :=
if m_nodes ≤ sg.1 then
some (.inr (sg.1, sg.2))
else
gIn sg.1 41 (
some (.inl (sg.1 + 1, upd sg.2 (Int32.toNatClampNeg sg.1) (-1000000000))))
def f_X4_measureFrom_l33 (m_nodes : Int32) (m_lsize : Int32) (a_tails : Nat → Int32) (a_heads : Nat → Int32) (a_gaps : Nat → Int32) (u1 : Int32) (sg : Int32 × (Nat → Int32)) : Option ((Int32 × (Nat → Int32)) ⊕ ((Int32 × (Nat → Int32)) ⊕ (Int32 × (Nat → Int32)))) :=
if m_nodes ≤ sg.1 then
some (.inr (.inl (sg.1, sg.2)))
else
(f_X4_pushAll m_lsize a_tails a_heads a_gaps sg.2).bind (fun q10 =>
if q10.1 = 0 then
some (.inr (.inr (1, q10.2)))
else
gIn u1 41 (
if (q10.2 (Int32.toNatClampNeg u1)) ≤ 0 then
some (.inl (sg.1 + 1, q10.2))
else
some (.inr (.inr (0, q10.2)))))
def f_X4_measureFrom (m_nodes : Int32) (m_lsize : Int32) (a_tails : Nat → Int32) (a_heads : Nat → Int32) (a_gaps : Nat → Int32) (a_least : Nat → Int32) (p1 : Int32) : Option (Int32 × (Nat → Int32)) :=
(lp (f_X4_measureFrom_l2 m_nodes m_lsize a_tails a_heads a_gaps p1) gFU (0, a_least)).bind (fun q7 =>
gIn p1 41 (
(lp (f_X4_measureFrom_l33 m_nodes m_lsize a_tails a_heads a_gaps p1) gFU (0, upd q7.2 (Int32.toNatClampNeg p1) 0)).bind (fun q14 => Sum.elim (fun t15 =>
some (0, t15.2)) (fun r16 => some r16) q14)))
def f_X8_has (a_tsize : Nat → Int32) (p0 : Nat) (p1 : Int32) : Option (Int32) :=
if p1 < 0 then
some 0
else
gN p0 7 (
if (a_tsize p0) ≤ p1 then
some 0
else
some 1)
def f_X6_begin (a_own : Nat → Int32) (a_oth : Nat → Int32) (a_fst : Nat → Int32) (a_snd : Nat → Int32) (a_plc : Nat → Int32) (p0 : Nat) (p1 : Int32) (p2 : Int32) : Option ((Nat → Int32) × (Nat → Int32) × (Nat → Int32) × (Nat → Int32) × (Nat → Int32)) :=
gN p0 84 (
some (upd a_own p0 p2, upd a_oth p0 (-1), upd a_fst p0 (-1), upd a_snd p0 (-1), upd a_plc p0 p1))
def f_X6_most (a_fst : Nat → Int32) (a_snd : Nat → Int32) (p0 : Nat) : Option (Int32) :=
gN p0 84 (
if (a_snd p0) = (-1) then
gN p0 84 (
some (a_fst p0))
else
gN p0 84 (
some (a_snd p0)))
def f_X6_putInto14_b213 (m_lsize : Int32) (a_tails : Nat → Int32) (a_heads : Nat → Int32) (a_gaps : Nat → Int32) (t_word : Nat → Nat) (a_own : Nat → Int32) (a_oth : Nat → Int32) (a_fst : Nat → Int32) (a_snd : Nat → Int32) (u0 : Nat) (u3 : Int32) (w0 : Int32) (w1 : Int32) (w2 : Int32) : Option (Int32 × (Nat → Int32) × (Nat → Int32) × (Nat → Int32)) :=
(f_X2_add14 m_lsize a_tails a_heads a_gaps w2 w1 w0).bind (fun q79 =>
gN u0 84 (
if (a_fst u0) = (-1) then
some (q79.1, q79.2.1, q79.2.2.1, q79.2.2.2)
else
gN u0 84 (
(f_X4_firstOf (a_oth u0)).bind (fun q83 =>
(f_X6_most a_fst a_snd u0).bind (fun q84 =>
(f_X2_add14 q79.1 q79.2.1 q79.2.2.1 q79.2.2.2 q83 u3 (-q84)).bind (fun q85 =>
some (q85.1, q85.2.1, q85.2.2.1, q85.2.2.2)))))))
def f_X6_putInto14 (m_lsize : Int32) (a_tails : Nat → Int32) (a_heads : Nat → Int32) (a_gaps : Nat → Int32) (t_word : Nat → Nat) (a_own : Nat → Int32) (a_oth : Nat → Int32) (a_fst : Nat → Int32) (a_snd : Nat → Int32) (p0 : Nat) : Option (Int32 × (Nat → Int32) × (Nat → Int32) × (Nat → Int32)) :=
gN p0 84 (
(f_X4_firstOf (a_own p0)).bind (fun q48 =>
(f_X4_lastOf (a_own p0)).bind (fun q49 =>
gN (t_word p0) 13 (
(f_Jx29ce0_ordinal_8abf5 (t_word p0)).bind (fun q51 =>
gIn q51 13 (
if (swM (Int32.toNatClampNeg q51)) = 1 then
gN p0 84 (
(f_X2_add14 m_lsize a_tails a_heads a_gaps 0 q48 (a_fst p0)).bind (fun q55 =>
(f_X2_add14 q55.1 q55.2.1 q55.2.2.1 q55.2.2.2 q49 0 (-(a_fst p0))).bind (fun q56 =>
some (q56.1, q56.2.1, q56.2.2.1, q56.2.2.2))))
else
if (swM (Int32.toNatClampNeg q51)) = 2 then
gN p0 84 (
(f_X2_add14 m_lsize a_tails a_heads a_gaps 0 q48 (a_fst p0)).bind (fun q59 =>
(f_X2_add14 q59.1 q59.2.1 q59.2.2.1 q59.2.2.2 q48 0 (-(a_fst p0))).bind (fun q60 =>
(f_X2_add14 q60.1 q60.2.1 q60.2.2.1 q60.2.2.2 0 q49 (a_snd p0)).bind (fun q61 =>
(f_X2_add14 q61.1 q61.2.1 q61.2.2.1 q61.2.2.2 q49 0 (-(a_snd p0))).bind (fun q62 =>
some (q62.1, q62.2.1, q62.2.2.1, q62.2.2.2))))))
else
if (swM (Int32.toNatClampNeg q51)) = 3 then
gN p0 84 (
(f_X2_add14 m_lsize a_tails a_heads a_gaps q49 0 (-(a_fst p0))).bind (fun q65 =>
some (q65.1, q65.2.1, q65.2.2.1, q65.2.2.2)))
else
if (swM (Int32.toNatClampNeg q51)) = 4 then
gN p0 84 (
(f_X2_add14 m_lsize a_tails a_heads a_gaps 0 q48 (a_fst p0)).bind (fun q68 =>
some (q68.1, q68.2.1, q68.2.2.1, q68.2.2.2)))
else
if (swM (Int32.toNatClampNeg q51)) = 5 then
gN p0 84 (
(f_X2_add14 m_lsize a_tails a_heads a_gaps q48 q49 (a_fst p0)).bind (fun q71 =>
(f_X6_most a_fst a_snd p0).bind (fun q72 =>
(f_X2_add14 q71.1 q71.2.1 q71.2.2.1 q71.2.2.2 q49 q48 (-q72)).bind (fun q73 =>
some (q73.1, q73.2.1, q73.2.2.1, q73.2.2.2)))))
else
if (swM (Int32.toNatClampNeg q51)) = 6 then
gN p0 84 (
(f_X4_firstOf (a_oth p0)).bind (fun q76 =>
if (a_fst p0) = (-1) then
f_X6_putInto14_b213 m_lsize a_tails a_heads a_gaps t_word a_own a_oth a_fst a_snd p0 q49 1 q76 q49
else
gN p0 84 (
f_X6_putInto14_b213 m_lsize a_tails a_heads a_gaps t_word a_own a_oth a_fst a_snd p0 q49 (a_fst p0) q76 q49)))
else
if (swM (Int32.toNatClampNeg q51)) = 7 then
gN p0 84 (
(f_X4_firstOf (a_oth p0)).bind (fun q88 =>
(f_X2_add14 m_lsize a_tails a_heads a_gaps q88 q48 0).bind (fun q89 =>
(f_X4_lastOf (a_oth p0)).bind (fun q90 =>
(f_X2_add14 q89.1 q89.2.1 q89.2.2.1 q89.2.2.2 q49 q90 0).bind (fun q91 =>
some (q91.1, q91.2.1, q91.2.2.1, q91.2.2.2))))))
else
some (m_lsize, a_tails, a_heads, a_gaps)))))))
def f_X6_putInto19_b213 (m_csize : Int32) (a_ctails : Nat → Int32) (a_cheads : Nat → Int32) (a_cgaps : Nat → Int32) (t_word : Nat → Nat) (a_own : Nat → Int32) (a_oth : Nat → Int32) (a_fst : Nat → Int32) (a_snd : Nat → Int32) (u0 : Nat) (u3 : Int32) (w0 : Int32) (w1 : Int32) (w2 : Int32) : Option (Int32 × (Nat → Int32) × (Nat → Int32) × (Nat → Int32)) :=
(f_X2_add19 m_csize a_ctails a_cheads a_cgaps w2 w1 w0).bind (fun q79 =>
gN u0 84 (
if (a_fst u0) = (-1) then
some (q79.1, q79.2.1, q79.2.2.1, q79.2.2.2)
else
gN u0 84 (
(f_X4_firstOf (a_oth u0)).bind (fun q83 =>
(f_X6_most a_fst a_snd u0).bind (fun q84 =>
(f_X2_add19 q79.1 q79.2.1 q79.2.2.1 q79.2.2.2 q83 u3 (-q84)).bind (fun q85 =>
some (q85.1, q85.2.1, q85.2.2.1, q85.2.2.2)))))))
def f_X6_putInto19 (m_csize : Int32) (a_ctails : Nat → Int32) (a_cheads : Nat → Int32) (a_cgaps : Nat → Int32) (t_word : Nat → Nat) (a_own : Nat → Int32) (a_oth : Nat → Int32) (a_fst : Nat → Int32) (a_snd : Nat → Int32) (p0 : Nat) : Option (Int32 × (Nat → Int32) × (Nat → Int32) × (Nat → Int32)) :=
gN p0 84 (
(f_X4_firstOf (a_own p0)).bind (fun q48 =>
(f_X4_lastOf (a_own p0)).bind (fun q49 =>
gN (t_word p0) 13 (
(f_Jx29ce0_ordinal_8abf5 (t_word p0)).bind (fun q51 =>
gIn q51 13 (
if (swM (Int32.toNatClampNeg q51)) = 1 then
gN p0 84 (
(f_X2_add19 m_csize a_ctails a_cheads a_cgaps 0 q48 (a_fst p0)).bind (fun q55 =>
(f_X2_add19 q55.1 q55.2.1 q55.2.2.1 q55.2.2.2 q49 0 (-(a_fst p0))).bind (fun q56 =>
some (q56.1, q56.2.1, q56.2.2.1, q56.2.2.2))))
else
if (swM (Int32.toNatClampNeg q51)) = 2 then
gN p0 84 (
(f_X2_add19 m_csize a_ctails a_cheads a_cgaps 0 q48 (a_fst p0)).bind (fun q59 =>
(f_X2_add19 q59.1 q59.2.1 q59.2.2.1 q59.2.2.2 q48 0 (-(a_fst p0))).bind (fun q60 =>
(f_X2_add19 q60.1 q60.2.1 q60.2.2.1 q60.2.2.2 0 q49 (a_snd p0)).bind (fun q61 =>
(f_X2_add19 q61.1 q61.2.1 q61.2.2.1 q61.2.2.2 q49 0 (-(a_snd p0))).bind (fun q62 =>
some (q62.1, q62.2.1, q62.2.2.1, q62.2.2.2))))))
else
if (swM (Int32.toNatClampNeg q51)) = 3 then
gN p0 84 (
(f_X2_add19 m_csize a_ctails a_cheads a_cgaps q49 0 (-(a_fst p0))).bind (fun q65 =>
some (q65.1, q65.2.1, q65.2.2.1, q65.2.2.2)))
else
if (swM (Int32.toNatClampNeg q51)) = 4 then
gN p0 84 (
(f_X2_add19 m_csize a_ctails a_cheads a_cgaps 0 q48 (a_fst p0)).bind (fun q68 =>
some (q68.1, q68.2.1, q68.2.2.1, q68.2.2.2)))
else
if (swM (Int32.toNatClampNeg q51)) = 5 then
gN p0 84 (
(f_X2_add19 m_csize a_ctails a_cheads a_cgaps q48 q49 (a_fst p0)).bind (fun q71 =>
(f_X6_most a_fst a_snd p0).bind (fun q72 =>
(f_X2_add19 q71.1 q71.2.1 q71.2.2.1 q71.2.2.2 q49 q48 (-q72)).bind (fun q73 =>
some (q73.1, q73.2.1, q73.2.2.1, q73.2.2.2)))))
else
if (swM (Int32.toNatClampNeg q51)) = 6 then
gN p0 84 (
(f_X4_firstOf (a_oth p0)).bind (fun q76 =>
if (a_fst p0) = (-1) then
f_X6_putInto19_b213 m_csize a_ctails a_cheads a_cgaps t_word a_own a_oth a_fst a_snd p0 q49 1 q76 q49
else
gN p0 84 (
f_X6_putInto19_b213 m_csize a_ctails a_cheads a_cgaps t_word a_own a_oth a_fst a_snd p0 q49 (a_fst p0) q76 q49)))
else
if (swM (Int32.toNatClampNeg q51)) = 7 then
gN p0 84 (
(f_X4_firstOf (a_oth p0)).bind (fun q88 =>
(f_X2_add19 m_csize a_ctails a_cheads a_cgaps q88 q48 0).bind (fun q89 =>
(f_X4_lastOf (a_oth p0)).bind (fun q90 =>
(f_X2_add19 q89.1 q89.2.1 q89.2.2.1 q89.2.2.2 q49 q90 0).bind (fun q91 =>
some (q91.1, q91.2.1, q91.2.2.1, q91.2.2.2))))))
else
some (m_csize, a_ctails, a_cheads, a_cgaps)))))))
def f_X10_lengthAt_l4 (m_tlen : Int32) (a_bytes : Nat → Int32) (sg : Int32 × Int32) : Option ((Int32 × Int32) ⊕ (Int32 × Int32)) :=
if m_tlen ≤ sg.2 then
some (.inr (sg.1, sg.2))
else
(f_X7_isLetter a_bytes sg.2).bind (fun q4 =>
if q4 = 0 then
(f_X7_isDigit a_bytes sg.2).bind (fun q6 =>
if q6 = 0 then
some (.inr (sg.1, sg.2))
else
some (.inl (sg.1 + 1, sg.2 + 1)))
else
some (.inl (sg.1 + 1, sg.2 + 1)))
def f_X10_lengthAt_b40 (m_tlen : Int32) (a_bytes : Nat → Int32) (u2 : Int32) : Option (Int32) :=
some (if u2 < 1 then 1 else u2)
def f_X10_lengthAt (m_tlen : Int32) (a_bytes : Nat → Int32) (p1 : Int32) : Option (Int32) :=
(lp (f_X10_lengthAt_l4 m_tlen a_bytes) gFU (0, p1)).bind (fun q8 =>
f_X10_lengthAt_b40 m_tlen a_bytes q8.1)
def f_X10_put (m_toks : Int32) (t_types : Nat → Nat) (a_starts : Nat → Int32) (a_tlens : Nat → Int32) (p1 : Nat) (p2 : Int32) (p3 : Int32) : Option (Int32 × (Nat → Nat) × (Nat → Int32) × (Nat → Int32)) :=
if 400 < m_toks then
some (m_toks, t_types, a_starts, a_tlens)
else
gN p1 13 (
gIn m_toks 401 (
gIn m_toks 401 (
gIn m_toks 401 (
some (m_toks + 1, va_up t_types (Int32.toNatClampNeg m_toks) p1, upd a_starts (Int32.toNatClampNeg m_toks) p2, upd a_tlens (Int32.toNatClampNeg m_toks) p3)))))
def f_X10_isSpelled_l13 (a_bytes : Nat → Int32) (u0 : Nat) (u2 : Int32) (u3 : Int32) (sg : Int32) : Option ((Int32) ⊕ ((Int32) ⊕ (Int32))) :=
if u3 ≤ sg then
some (.inr (.inl sg))
else
gN u0 13 (
(f_J0_charAt_5068e u0 sg).bind (fun q11 =>
gIn (u2 + sg) 440 (
if q11 = (a_bytes (Int32.toNatClampNeg (u2 + sg))) then
some (.inl (sg + 1))
else
some (.inr (.inr 0)))))
def f_X10_isSpelled (a_bytes : Nat → Int32) (p0 : Nat) (p2 : Int32) (p3 : Int32) : Option (Int32) :=
gN p0 13 (
(f_J0_length_8abf5 p0).bind (fun q7 =>
if q7 = p3 then
(lp (f_X10_isSpelled_l13 a_bytes p0 p2 p3) gFU 0).bind (fun q14 => Sum.elim (fun t15 =>
some 1) (fun r16 => some r16) q14)
else
some 0))
def f_X10_wordAt_l2 (a_bytes : Nat → Int32) (u1 : Int32) (u2 : Int32) (sg : Int32) : Option ((Int32) ⊕ ((Int32) ⊕ (Nat))) :=
if 13 ≤ sg then
some (.inr (.inl sg))
else
gIn sg 13 (
gN (Int32.toNatClampNeg sg) 13 (
(f_X10_isSpelled a_bytes (Int32.toNatClampNeg sg) u1 u2).bind (fun q8 =>
if q8 = 0 then
some (.inl (sg + 1))
else
gIn sg 13 (
some (.inr (.inr (Int32.toNatClampNeg sg)))))))
def f_X10_wordAt (a_bytes : Nat → Int32) (p1 : Int32) (p2 : Int32) : Option (Nat) :=
(lp (f_X10_wordAt_l2 a_bytes p1 p2) gFU 0).bind (fun q11 => Sum.elim (fun t12 =>
some 8) (fun r13 => some r13) q11)
def f_X10_typeAt_b64 (a_bytes : Nat → Int32) (u1 : Int32) (u2 : Int32) (u3 : Int32) (u5 : Int32) (w0 : Int32) (w1 : Int32) : Option ((Int32 × Int32 × Int32) ⊕ (Int32 × Int32 × Int32)) :=
some (.inl (u3, w1 + w0, u5 + 1))
def f_X10_typeAt_b46 (a_bytes : Nat → Int32) (u1 : Int32) (u2 : Int32) (u4 : Int32) (u5 : Int32) (w0 : Int32) (w1 : Int32) : Option ((Int32 × Int32 × Int32) ⊕ (Int32 × Int32 × Int32)) :=
(f_X7_isLetter a_bytes u5).bind (fun q10 =>
if q10 = 0 then
f_X10_typeAt_b64 a_bytes u1 u2 (w1 + w0) u5 0 u4
else
f_X10_typeAt_b64 a_bytes u1 u2 (w1 + w0) u5 1 u4)
def f_X10_typeAt_l23 (a_bytes : Nat → Int32) (u1 : Int32) (u2 : Int32) (sg : Int32 × Int32 × Int32) : Option ((Int32 × Int32 × Int32) ⊕ (Int32 × Int32 × Int32)) :=
if (u1 + u2) ≤ sg.2.2 then
some (.inr (sg.1, sg.2.1, sg.2.2))
else
(f_X7_isDigit a_bytes sg.2.2).bind (fun q8 =>
if q8 = 0 then
f_X10_typeAt_b46 a_bytes u1 u2 sg.2.1 sg.2.2 0 sg.1
else
f_X10_typeAt_b46 a_bytes u1 u2 sg.2.1 sg.2.2 1 sg.1)
def f_X10_typeAt_b106 (a_bytes : Nat → Int32) : Option (Nat) :=
some 12
def f_X10_typeAt_b87 (a_bytes : Nat → Int32) (u1 : Int32) (u2 : Int32) (u4 : Int32) : Option (Nat) :=
if u4 = u2 then
if 8 < u2 then
f_X10_typeAt_b106 a_bytes
else
(f_X10_wordAt a_bytes u1 u2).bind (fun q16 =>
some q16)
else
f_X10_typeAt_b106 a_bytes
def f_X10_typeAt (a_bytes : Nat → Int32) (p1 : Int32) (p2 : Int32) : Option (Nat) :=
gIn p1 440 (
if (a_bytes (Int32.toNatClampNeg p1)) = 59 then
some 10
else
(lp (f_X10_typeAt_l23 a_bytes p1 p2) gFU (0, 0, p1)).bind (fun q12 =>
if q12.1 = p2 then
if 4 < p2 then
f_X10_typeAt_b87 a_bytes p1 p2 q12.2.1
else
some 9
else
f_X10_typeAt_b87 a_bytes p1 p2 q12.2.1))
def f_X10_cut_l18 (m_tlen : Int32) (a_bytes : Nat → Int32) (u2 : Int32) (sg : Int32 × Int32 × (Nat → Nat) × (Nat → Int32) × (Nat → Int32)) : Option ((Int32 × Int32 × (Nat → Nat) × (Nat → Int32) × (Nat → Int32)) ⊕ (Int32 × Int32 × (Nat → Nat) × (Nat → Int32) × (Nat → Int32))) :=
if u2 ≤ sg.1 then
some (.inr (sg.1, sg.2.1, sg.2.2.1, sg.2.2.2.1, sg.2.2.2.2))
else
(f_X7_isBlank a_bytes sg.1).bind (fun q7 =>
if q7 = 0 then
(f_X10_lengthAt m_tlen a_bytes sg.1).bind (fun q9 =>
(f_X10_typeAt a_bytes sg.1 q9).bind (fun q10 =>
(f_X10_put sg.2.1 sg.2.2.1 sg.2.2.2.1 sg.2.2.2.2 q10 sg.1 q9).bind (fun q11 =>
some (.inl ((sg.1 + (q9 - 1)) + 1, q11.1, q11.2.1, q11.2.2.1, q11.2.2.2)))))
else
some (.inl (sg.1 + 1, sg.2.1, sg.2.2.1, sg.2.2.2.1, sg.2.2.2.2)))
def f_X10_cut (m_tlen : Int32) (a_bytes : Nat → Int32) (m_toks : Int32) (t_types : Nat → Nat) (a_starts : Nat → Int32) (a_tlens : Nat → Int32) : Option (Int32 × (Nat → Nat) × (Nat → Int32) × (Nat → Int32)) :=
(lp (f_X10_cut_l18 m_tlen a_bytes (if 400 < m_tlen then 400 else m_tlen)) gFU (0, 0, t_types, a_starts, a_tlens)).bind (fun q12 =>
(f_X10_put q12.2.1 q12.2.2.1 q12.2.2.2.1 q12.2.2.2.2 11 (if 400 < m_tlen then 400 else m_tlen) 0).bind (fun q13 =>
some (q13.1, q13.2.1, q13.2.2.1, q13.2.2.2)))
def f_X5_is (m_here : Int32) (t_types : Nat → Nat) (p1 : Nat) : Option (Int32) :=
gIn m_here 401 (
gN (t_types (Int32.toNatClampNeg m_here)) 13 (
gN p1 13 (
if (t_types (Int32.toNatClampNeg m_here)) = p1 then
some 1
else
some 0)))
def f_X5_pass (m_here : Int32) : Option (Int32 × Int32) :=
if 400 ≤ m_here then
some (1, m_here)
else
some (1, m_here + 1)
def f_X5_refuse (m_here : Int32) (m_fkind : Int32) (m_fplace : Int32) (a_starts : Nat → Int32) (p1 : Int32) : Option (Int32 × Int32 × Int32) :=
gIn m_here 401 (
some (0, p1, a_starts (Int32.toNatClampNeg m_here)))
def f_X5_readBeginning (a_bytes : Nat → Int32) (m_drafted : Int32) (a_letters : Nat → Int32) (a_nlen : Nat → Int32) (m_here : Int32) (m_fkind : Int32) (m_fplace : Int32) (t_types : Nat → Nat) (a_starts : Nat → Int32) (a_tlens : Nat → Int32) (a_own : Nat → Int32) (a_oth : Nat → Int32) (a_fst : Nat → Int32) (a_snd : Nat → Int32) (a_plc : Nat → Int32) (p1 : Int32) (p2 : Nat) : Option (Int32 × Int32 × (Nat → Int32) × (Nat → Int32) × Int32 × Int32 × Int32 × (Nat → Int32) × (Nat → Int32) × (Nat → Int32) × (Nat → Int32) × (Nat → Int32)) :=
(f_X5_is m_here t_types 8).bind (fun q15 =>
if q15 = 0 then
(f_X5_refuse m_here m_fkind m_fplace a_starts 1).bind (fun q33 =>
gB q33.1 (
some (q33.1, m_drafted, a_letters, a_nlen, m_here, q33.2.1, q33.2.2, a_own, a_oth, a_fst, a_snd, a_plc)))
else
if p1 < 12 then
gIn m_here 401 (
gIn m_here 401 (
(f_X3_findOrDraft a_bytes m_drafted a_letters a_nlen (a_starts (Int32.toNatClampNeg m_here)) (a_tlens (Int32.toNatClampNeg m_here))).bind (fun q20 =>
if q20.1 = (-1) then
(f_X5_refuse m_here m_fkind m_fplace a_starts 4).bind (fun q29 =>
gB q29.1 (
some (q29.1, q20.2.1, q20.2.2.1, q20.2.2.2, m_here, q29.2.1, q29.2.2, a_own, a_oth, a_fst, a_snd, a_plc)))
else
gN p2 7 (
gIn p1 12 (
gIn m_here 401 (
gN (12 * p2 + Int32.toNatClampNeg p1) 84 (
(f_X6_begin a_own a_oth a_fst a_snd a_plc (12 * p2 + Int32.toNatClampNeg p1) (a_starts (Int32.toNatClampNeg m_here)) q20.1).bind (fun q26 =>
(f_X5_pass m_here).bind (fun q27 =>
gB q27.1 (
some (q27.1, q20.2.1, q20.2.2.1, q20.2.2.2, q27.2, m_fkind, m_fplace, q26.1, q26.2.1, q26.2.2.1, q26.2.2.2.1, q26.2.2.2.2)))))))))))
else
(f_X5_refuse m_here m_fkind m_fplace a_starts 4).bind (fun q31 =>
gB q31.1 (
some (q31.1, m_drafted, a_letters, a_nlen, m_here, q31.2.1, q31.2.2, a_own, a_oth, a_fst, a_snd, a_plc))))
def f_X5_readNumber_l22 (a_bytes : Nat → Int32) (m_here : Int32) (m_fkind : Int32) (m_fplace : Int32) (t_types : Nat → Nat) (a_starts : Nat → Int32) (a_tlens : Nat → Int32) (u1 : Int32) (sg : Int32 × Int32) : Option ((Int32 × Int32) ⊕ (Int32 × Int32)) :=
gIn m_here 401 (
if (a_tlens (Int32.toNatClampNeg m_here)) ≤ sg.2 then
some (.inr (sg.1, sg.2))
else
gIn m_here 401 (
gIn ((a_starts (Int32.toNatClampNeg m_here)) + sg.2) 440 (
some (.inl (((10 * sg.1) + (a_bytes (Int32.toNatClampNeg ((a_starts (Int32.toNatClampNeg m_here)) + sg.2)))) - 48, sg.2 + 1)))))
def f_X5_readNumber (a_bytes : Nat → Int32) (m_here : Int32) (m_fkind : Int32) (m_fplace : Int32) (t_types : Nat → Nat) (a_starts : Nat → Int32) (a_tlens : Nat → Int32) (p1 : Int32) : Option (Int32 × Int32 × Int32 × Int32) :=
(f_X5_is m_here t_types 9).bind (fun q8 =>
if q8 = 0 then
(f_X5_refuse m_here m_fkind m_fplace a_starts 1).bind (fun q18 =>
some ((-1), m_here, q18.2.1, q18.2.2))
else
(lp (f_X5_readNumber_l22 a_bytes m_here m_fkind m_fplace t_types a_starts a_tlens p1) gFU (0, 0)).bind (fun q14 =>
if p1 ≤ q14.1 then
(f_X5_pass m_here).bind (fun q16 =>
some (q14.1, q16.2, m_fkind, m_fplace))
else
(f_X5_refuse m_here m_fkind m_fplace a_starts 2).bind (fun q17 =>
some ((-1), m_here, q17.2.1, q17.2.2))))
def f_X5_readFirst (a_bytes : Nat → Int32) (m_here : Int32) (m_fkind : Int32) (m_fplace : Int32) (t_types : Nat → Nat) (a_starts : Nat → Int32) (a_tlens : Nat → Int32) (a_fst : Nat → Int32) (p1 : Nat) (p2 : Int32) : Option (Int32 × Int32 × Int32 × Int32 × (Nat → Int32)) :=
(f_X5_readNumber a_bytes m_here m_fkind m_fplace t_types a_starts a_tlens p2).bind (fun q4 =>
gN p1 84 (
if ((upd a_fst p1 q4.1) p1) = (-1) then
some (0, q4.2.1, q4.2.2.1, q4.2.2.2, upd a_fst p1 q4.1)
else
some (1, q4.2.1, q4.2.2.1, q4.2.2.2, upd a_fst p1 q4.1)))
def f_X5_readGapIfAny (a_bytes : Nat → Int32) (m_here : Int32) (m_fkind : Int32) (m_fplace : Int32) (t_types : Nat → Nat) (a_starts : Nat → Int32) (a_tlens : Nat → Int32) (a_fst : Nat → Int32) (p1 : Nat) : Option (Int32 × Int32 × Int32 × Int32 × (Nat → Int32)) :=
(f_X5_is m_here t_types 2).bind (fun q4 =>
if q4 = 0 then
some (1, m_here, m_fkind, m_fplace, a_fst)
else
(f_X5_pass m_here).bind (fun q6 =>
(f_X5_readFirst a_bytes q6.2 m_fkind m_fplace t_types a_starts a_tlens a_fst p1 1).bind (fun q7 =>
gB q7.1 (
some (q7.1, q7.2.1, q7.2.2.1, q7.2.2.2.1, q7.2.2.2.2)))))
def f_X5_readOther (a_bytes : Nat → Int32) (m_drafted : Int32) (a_letters : Nat → Int32) (a_nlen : Nat → Int32) (m_here : Int32) (m_fkind : Int32) (m_fplace : Int32) (t_types : Nat → Nat) (a_starts : Nat → Int32) (a_tlens : Nat → Int32) (a_own : Nat → Int32) (a_oth : Nat → Int32) (p1 : Nat) : Option (Int32 × Int32 × (Nat → Int32) × (Nat → Int32) × Int32 × Int32 × Int32 × (Nat → Int32)) :=
(f_X5_is m_here t_types 8).bind (fun q13 =>
if q13 = 0 then
(f_X5_refuse m_here m_fkind m_fplace a_starts 1).bind (fun q28 =>
gB q28.1 (
some (q28.1, m_drafted, a_letters, a_nlen, m_here, q28.2.1, q28.2.2, a_oth)))
else
gIn m_here 401 (
gIn m_here 401 (
(f_X3_findOrDraft a_bytes m_drafted a_letters a_nlen (a_starts (Int32.toNatClampNeg m_here)) (a_tlens (Int32.toNatClampNeg m_here))).bind (fun q17 =>
gN p1 84 (
if ((upd a_oth p1 q17.1) p1) = (a_own p1) then
(f_X5_refuse m_here m_fkind m_fplace a_starts 3).bind (fun q26 =>
gB q26.1 (
some (q26.1, q17.2.1, q17.2.2.1, q17.2.2.2, m_here, q26.2.1, q26.2.2, upd a_oth p1 q17.1)))
else
gN p1 84 (
if ((upd a_oth p1 q17.1) p1) = (-1) then
(f_X5_refuse m_here m_fkind m_fplace a_starts 4).bind (fun q24 =>
gB q24.1 (
some (q24.1, q17.2.1, q17.2.2.1, q17.2.2.2, m_here, q24.2.1, q24.2.2, upd a_oth p1 q17.1)))
else
(f_X5_pass m_here).bind (fun q22 =>
gB q22.1 (
some (q22.1, q17.2.1, q17.2.2.1, q17.2.2.2, q22.2, m_fkind, m_fplace, upd a_oth p1 q17.1)))))))))
def f_X5_readSecond (a_bytes : Nat → Int32) (m_here : Int32) (m_fkind : Int32) (m_fplace : Int32) (t_types : Nat → Nat) (a_starts : Nat → Int32) (a_tlens : Nat → Int32) (a_fst : Nat → Int32) (a_snd : Nat → Int32) (p1 : Nat) : Option (Int32 × Int32 × Int32 × Int32 × (Nat → Int32)) :=
(f_X5_is m_here t_types 7).bind (fun q8 =>
if q8 = 0 then
(f_X5_refuse m_here m_fkind m_fplace a_starts 1).bind (fun q14 =>
gB q14.1 (
some (q14.1, m_here, q14.2.1, q14.2.2, a_snd)))
else
(f_X5_pass m_here).bind (fun q10 =>
gN p1 84 (
(f_X5_readNumber a_bytes q10.2 m_fkind m_fplace t_types a_starts a_tlens (a_fst p1)).bind (fun q12 =>
if ((upd a_snd p1 q12.1) p1) = (-1) then
some (0, q12.2.1, q12.2.2.1, q12.2.2.2, upd a_snd p1 q12.1)
else
some (1, q12.2.1, q12.2.2.1, q12.2.2.2, upd a_snd p1 q12.1)))))
def f_X5_readSecondIfAny (a_bytes : Nat → Int32) (m_here : Int32) (m_fkind : Int32) (m_fplace : Int32) (t_types : Nat → Nat) (a_starts : Nat → Int32) (a_tlens : Nat → Int32) (a_fst : Nat → Int32) (a_snd : Nat → Int32) (p1 : Nat) : Option (Int32 × Int32 × Int32 × Int32 × (Nat → Int32)) :=
gN p1 84 (
if (a_fst p1) = (-1) then
some (1, m_here, m_fkind, m_fplace, a_snd)
else
(f_X5_is m_here t_types 7).bind (fun q6 =>
if q6 = 0 then
some (1, m_here, m_fkind, m_fplace, a_snd)
else
(f_X5_readSecond a_bytes m_here m_fkind m_fplace t_types a_starts a_tlens a_fst a_snd p1).bind (fun q8 =>
if q8.1 = 0 then
some (0, q8.2.1, q8.2.2.1, q8.2.2.2.1, q8.2.2.2.2)
else
some (1, q8.2.1, q8.2.2.1, q8.2.2.2.1, q8.2.2.2.2))))
def f_X5_readStop (m_here : Int32) (m_fkind : Int32) (m_fplace : Int32) (t_types : Nat → Nat) (a_starts : Nat → Int32) : Option (Int32 × Int32 × Int32 × Int32) :=
(f_X5_is m_here t_types 10).bind (fun q4 =>
if q4 = 0 then
(f_X5_refuse m_here m_fkind m_fplace a_starts 1).bind (fun q6 =>
gB q6.1 (
some (q6.1, m_here, q6.2.1, q6.2.2)))
else
(f_X5_pass m_here).bind (fun q8 =>
gB q8.1 (
some (q8.1, q8.2, m_fkind, m_fplace))))
def f_X5_readRest (a_bytes : Nat → Int32) (m_drafted : Int32) (a_letters : Nat → Int32) (a_nlen : Nat → Int32) (m_here : Int32) (m_fkind : Int32) (m_fplace : Int32) (t_types : Nat → Nat) (a_starts : Nat → Int32) (a_tlens : Nat → Int32) (t_word : Nat → Nat) (a_own : Nat → Int32) (a_oth : Nat → Int32) (a_fst : Nat → Int32) (a_snd : Nat → Int32) (p1 : Nat) : Option (Int32 × Int32 × (Nat → Int32) × (Nat → Int32) × Int32 × Int32 × Int32 × (Nat → Nat) × (Nat → Int32) × (Nat → Int32) × (Nat → Int32)) :=
gIn m_here 401 (
gN p1 84 (
gN ((va_up t_word p1 (t_types (Int32.toNatClampNeg m_here))) p1) 13 (
if (tkK ((va_up t_word p1 (t_types (Int32.toNatClampNeg m_here))) p1)) = (-1) then
(f_X5_refuse m_here m_fkind m_fplace a_starts 1).bind (fun q68 =>
gB q68.1 (
some (q68.1, m_drafted, a_letters, a_nlen, m_here, q68.2.1, q68.2.2, va_up t_word p1 (t_types (Int32.toNatClampNeg m_here)), a_oth, a_fst, a_snd)))
else
(f_X5_pass m_here).bind (fun q29 =>
gN p1 84 (
gN ((va_up t_word p1 (t_types (Int32.toNatClampNeg m_here))) p1) 13 (
(f_Jx29ce0_ordinal_8abf5 ((va_up t_word p1 (t_types (Int32.toNatClampNeg m_here))) p1)).bind (fun q32 =>
gIn q32 13 (
if (swM (Int32.toNatClampNeg q32)) = 2 then
(f_X5_readFirst a_bytes q29.2 m_fkind m_fplace t_types a_starts a_tlens a_fst p1 0).bind (fun q35 =>
if q35.1 = 0 then
some (0, m_drafted, a_letters, a_nlen, q35.2.1, q35.2.2.1, q35.2.2.2.1, va_up t_word p1 (t_types (Int32.toNatClampNeg m_here)), a_oth, q35.2.2.2.2, a_snd)
else
(f_X5_readSecond a_bytes q35.2.1 q35.2.2.1 q35.2.2.2.1 t_types a_starts a_tlens q35.2.2.2.2 a_snd p1).bind (fun q37 =>
if q37.1 = 0 then
some (0, m_drafted, a_letters, a_nlen, q37.2.1, q37.2.2.1, q37.2.2.2.1, va_up t_word p1 (t_types (Int32.toNatClampNeg m_here)), a_oth, q35.2.2.2.2, q37.2.2.2.2)
else
(f_X5_readStop q37.2.1 q37.2.2.1 q37.2.2.2.1 t_types a_starts).bind (fun q39 =>
if q39.1 = 0 then
some (0, m_drafted, a_letters, a_nlen, q39.2.1, q39.2.2.1, q39.2.2.2, va_up t_word p1 (t_types (Int32.toNatClampNeg m_here)), a_oth, q35.2.2.2.2, q37.2.2.2.2)
else
some (1, m_drafted, a_letters, a_nlen, q39.2.1, q39.2.2.1, q39.2.2.2, va_up t_word p1 (t_types (Int32.toNatClampNeg m_here)), a_oth, q35.2.2.2.2, q37.2.2.2.2))))
else
if (swM (Int32.toNatClampNeg q32)) = 5 then
(f_X5_readFirst a_bytes q29.2 m_fkind m_fplace t_types a_starts a_tlens a_fst p1 0).bind (fun q42 =>
if q42.1 = 0 then
some (0, m_drafted, a_letters, a_nlen, q42.2.1, q42.2.2.1, q42.2.2.2.1, va_up t_word p1 (t_types (Int32.toNatClampNeg m_here)), a_oth, q42.2.2.2.2, a_snd)
else
(f_X5_readSecondIfAny a_bytes q42.2.1 q42.2.2.1 q42.2.2.2.1 t_types a_starts a_tlens q42.2.2.2.2 a_snd p1).bind (fun q44 =>
if q44.1 = 0 then
some (0, m_drafted, a_letters, a_nlen, q44.2.1, q44.2.2.1, q44.2.2.2.1, va_up t_word p1 (t_types (Int32.toNatClampNeg m_here)), a_oth, q42.2.2.2.2, q44.2.2.2.2)
else
(f_X5_readStop q44.2.1 q44.2.2.1 q44.2.2.2.1 t_types a_starts).bind (fun q46 =>
if q46.1 = 0 then
some (0, m_drafted, a_letters, a_nlen, q46.2.1, q46.2.2.1, q46.2.2.2, va_up t_word p1 (t_types (Int32.toNatClampNeg m_here)), a_oth, q42.2.2.2.2, q44.2.2.2.2)
else
some (1, m_drafted, a_letters, a_nlen, q46.2.1, q46.2.2.1, q46.2.2.2, va_up t_word p1 (t_types (Int32.toNatClampNeg m_here)), a_oth, q42.2.2.2.2, q44.2.2.2.2))))
else
if (swM (Int32.toNatClampNeg q32)) = 6 then
(f_X5_readOther a_bytes m_drafted a_letters a_nlen q29.2 m_fkind m_fplace t_types a_starts a_tlens a_own a_oth p1).bind (fun q49 =>
if q49.1 = 0 then
some (0, q49.2.1, q49.2.2.1, q49.2.2.2.1, q49.2.2.2.2.1, q49.2.2.2.2.2.1, q49.2.2.2.2.2.2.1, va_up t_word p1 (t_types (Int32.toNatClampNeg m_here)), q49.2.2.2.2.2.2.2, a_fst, a_snd)
else
(f_X5_readGapIfAny a_bytes q49.2.2.2.2.1 q49.2.2.2.2.2.1 q49.2.2.2.2.2.2.1 t_types a_starts a_tlens a_fst p1).bind (fun q51 =>
if q51.1 = 0 then
some (0, q49.2.1, q49.2.2.1, q49.2.2.2.1, q51.2.1, q51.2.2.1, q51.2.2.2.1, va_up t_word p1 (t_types (Int32.toNatClampNeg m_here)), q49.2.2.2.2.2.2.2, q51.2.2.2.2, a_snd)
else
(f_X5_readSecondIfAny a_bytes q51.2.1 q51.2.2.1 q51.2.2.2.1 t_types a_starts a_tlens q51.2.2.2.2 a_snd p1).bind (fun q53 =>
if q53.1 = 0 then
some (0, q49.2.1, q49.2.2.1, q49.2.2.2.1, q53.2.1, q53.2.2.1, q53.2.2.2.1, va_up t_word p1 (t_types (Int32.toNatClampNeg m_here)), q49.2.2.2.2.2.2.2, q51.2.2.2.2, q53.2.2.2.2)
else
(f_X5_readStop q53.2.1 q53.2.2.1 q53.2.2.2.1 t_types a_starts).bind (fun q55 =>
if q55.1 = 0 then
some (0, q49.2.1, q49.2.2.1, q49.2.2.2.1, q55.2.1, q55.2.2.1, q55.2.2.2, va_up t_word p1 (t_types (Int32.toNatClampNeg m_here)), q49.2.2.2.2.2.2.2, q51.2.2.2.2, q53.2.2.2.2)
else
some (1, q49.2.1, q49.2.2.1, q49.2.2.2.1, q55.2.1, q55.2.2.1, q55.2.2.2, va_up t_word p1 (t_types (Int32.toNatClampNeg m_here)), q49.2.2.2.2.2.2.2, q51.2.2.2.2, q53.2.2.2.2)))))
else
if (swM (Int32.toNatClampNeg q32)) = 7 then
(f_X5_readOther a_bytes m_drafted a_letters a_nlen q29.2 m_fkind m_fplace t_types a_starts a_tlens a_own a_oth p1).bind (fun q58 =>
if q58.1 = 0 then
some (0, q58.2.1, q58.2.2.1, q58.2.2.2.1, q58.2.2.2.2.1, q58.2.2.2.2.2.1, q58.2.2.2.2.2.2.1, va_up t_word p1 (t_types (Int32.toNatClampNeg m_here)), q58.2.2.2.2.2.2.2, a_fst, a_snd)
else
(f_X5_readStop q58.2.2.2.2.1 q58.2.2.2.2.2.1 q58.2.2.2.2.2.2.1 t_types a_starts).bind (fun q60 =>
if q60.1 = 0 then
some (0, q58.2.1, q58.2.2.1, q58.2.2.2.1, q60.2.1, q60.2.2.1, q60.2.2.2, va_up t_word p1 (t_types (Int32.toNatClampNeg m_here)), q58.2.2.2.2.2.2.2, a_fst, a_snd)
else
some (1, q58.2.1, q58.2.2.1, q58.2.2.2.1, q60.2.1, q60.2.2.1, q60.2.2.2, va_up t_word p1 (t_types (Int32.toNatClampNeg m_here)), q58.2.2.2.2.2.2.2, a_fst, a_snd)))
else
(f_X5_readFirst a_bytes q29.2 m_fkind m_fplace t_types a_starts a_tlens a_fst p1 0).bind (fun q62 =>
if q62.1 = 0 then
some (0, m_drafted, a_letters, a_nlen, q62.2.1, q62.2.2.1, q62.2.2.2.1, va_up t_word p1 (t_types (Int32.toNatClampNeg m_here)), a_oth, q62.2.2.2.2, a_snd)
else
(f_X5_readStop q62.2.1 q62.2.2.1 q62.2.2.2.1 t_types a_starts).bind (fun q64 =>
if q64.1 = 0 then
some (0, m_drafted, a_letters, a_nlen, q64.2.1, q64.2.2.1, q64.2.2.2, va_up t_word p1 (t_types (Int32.toNatClampNeg m_here)), a_oth, q62.2.2.2.2, a_snd)
else
some (1, m_drafted, a_letters, a_nlen, q64.2.1, q64.2.2.1, q64.2.2.2, va_up t_word p1 (t_types (Int32.toNatClampNeg m_here)), a_oth, q62.2.2.2.2, a_snd)))))))))))
def f_X5_read_l28 (m_tlen : Int32) (a_bytes : Nat → Int32) (m_nsize : Int32) (m_toks : Int32) (t_types : Nat → Nat) (a_starts : Nat → Int32) (a_tlens : Nat → Int32) (u1 : Nat) (sg : Int32 × Int32 × (Nat → Int32) × (Nat → Int32) × Int32 × Int32 × Int32 × (Nat → Int32) × (Nat → Nat) × (Nat → Int32) × (Nat → Int32) × (Nat → Int32) × (Nat → Int32) × (Nat → Int32)) : Option ((Int32 × Int32 × (Nat → Int32) × (Nat → Int32) × Int32 × Int32 × Int32 × (Nat → Int32) × (Nat → Nat) × (Nat → Int32) × (Nat → Int32) × (Nat → Int32) × (Nat → Int32) × (Nat → Int32)) ⊕ (Int32 × Int32 × (Nat → Int32) × (Nat → Int32) × Int32 × Int32 × Int32 × (Nat → Int32) × (Nat → Nat) × (Nat → Int32) × (Nat → Int32) × (Nat → Int32) × (Nat → Int32) × (Nat → Int32))) :=
if 12 < sg.1 then
some (.inr (sg.1, sg.2.1, sg.2.2.1, sg.2.2.2.1, sg.2.2.2.2.1, sg.2.2.2.2.2.1, sg.2.2.2.2.2.2.1, sg.2.2.2.2.2.2.2.1, sg.2.2.2.2.2.2.2.2.1, sg.2.2.2.2.2.2.2.2.2.1, sg.2.2.2.2.2.2.2.2.2.2.1, sg.2.2.2.2.2.2.2.2.2.2.2.1, sg.2.2.2.2.2.2.2.2.2.2.2.2.1, sg.2.2.2.2.2.2.2.2.2.2.2.2.2))
else
if sg.2.2.2.2.2.1 = 0 then
(f_X5_is sg.2.2.2.2.1 t_types 11).bind (fun q16 =>
if q16 = 0 then
(f_X5_readBeginning a_bytes sg.2.1 sg.2.2.1 sg.2.2.2.1 sg.2.2.2.2.1 sg.2.2.2.2.2.1 sg.2.2.2.2.2.2.1 t_types a_starts a_tlens sg.2.2.2.2.2.2.2.2.2.1 sg.2.2.2.2.2.2.2.2.2.2.1 sg.2.2.2.2.2.2.2.2.2.2.2.1 sg.2.2.2.2.2.2.2.2.2.2.2.2.1 sg.2.2.2.2.2.2.2.2.2.2.2.2.2 sg.1 u1).bind (fun q18 =>
if q18.1 = 0 then
some (.inl (sg.1 + 1, q18.2.1, q18.2.2.1, q18.2.2.2.1, q18.2.2.2.2.1, q18.2.2.2.2.2.1, q18.2.2.2.2.2.2.1, sg.2.2.2.2.2.2.2.1, sg.2.2.2.2.2.2.2.2.1, q18.2.2.2.2.2.2.2.1, q18.2.2.2.2.2.2.2.2.1, q18.2.2.2.2.2.2.2.2.2.1, q18.2.2.2.2.2.2.2.2.2.2.1, q18.2.2.2.2.2.2.2.2.2.2.2))
else
gN u1 7 (
gIn sg.1 12 (
(f_X5_readRest a_bytes q18.2.1 q18.2.2.1 q18.2.2.2.1 q18.2.2.2.2.1 q18.2.2.2.2.2.1 q18.2.2.2.2.2.2.1 t_types a_starts a_tlens sg.2.2.2.2.2.2.2.2.1 q18.2.2.2.2.2.2.2.1 q18.2.2.2.2.2.2.2.2.1 q18.2.2.2.2.2.2.2.2.2.1 q18.2.2.2.2.2.2.2.2.2.2.1 (12 * u1 + Int32.toNatClampNeg sg.1)).bind (fun q22 =>
if q22.1 = 0 then
some (.inl (sg.1 + 1, q22.2.1, q22.2.2.1, q22.2.2.2.1, q22.2.2.2.2.1, q22.2.2.2.2.2.1, q22.2.2.2.2.2.2.1, sg.2.2.2.2.2.2.2.1, q22.2.2.2.2.2.2.2.1, q18.2.2.2.2.2.2.2.1, q22.2.2.2.2.2.2.2.2.1, q22.2.2.2.2.2.2.2.2.2.1, q22.2.2.2.2.2.2.2.2.2.2, q18.2.2.2.2.2.2.2.2.2.2.2))
else
gN u1 7 (
some (.inl (sg.1 + 1, q22.2.1, q22.2.2.1, q22.2.2.2.1, q22.2.2.2.2.1, q22.2.2.2.2.2.1, q22.2.2.2.2.2.2.1, upd sg.2.2.2.2.2.2.2.1 u1 (sg.1 + 1), q22.2.2.2.2.2.2.2.1, q18.2.2.2.2.2.2.2.1, q22.2.2.2.2.2.2.2.2.1, q22.2.2.2.2.2.2.2.2.2.1, q22.2.2.2.2.2.2.2.2.2.2, q18.2.2.2.2.2.2.2.2.2.2.2)))))))
else
some (.inr (sg.1, sg.2.1, sg.2.2.1, sg.2.2.2.1, sg.2.2.2.2.1, sg.2.2.2.2.2.1, sg.2.2.2.2.2.2.1, sg.2.2.2.2.2.2.2.1, sg.2.2.2.2.2.2.2.2.1, sg.2.2.2.2.2.2.2.2.2.1, sg.2.2.2.2.2.2.2.2.2.2.1, sg.2.2.2.2.2.2.2.2.2.2.2.1, sg.2.2.2.2.2.2.2.2.2.2.2.2.1, sg.2.2.2.2.2.2.2.2.2.2.2.2.2)))
else
some (.inr (sg.1, sg.2.1, sg.2.2.1, sg.2.2.2.1, sg.2.2.2.2.1, sg.2.2.2.2.2.1, sg.2.2.2.2.2.2.1, sg.2.2.2.2.2.2.2.1, sg.2.2.2.2.2.2.2.2.1, sg.2.2.2.2.2.2.2.2.2.1, sg.2.2.2.2.2.2.2.2.2.2.1, sg.2.2.2.2.2.2.2.2.2.2.2.1, sg.2.2.2.2.2.2.2.2.2.2.2.2.1, sg.2.2.2.2.2.2.2.2.2.2.2.2.2))
def f_X5_read_b128 (m_tlen : Int32) (a_bytes : Nat → Int32) (m_nsize : Int32) (m_drafted : Int32) (a_letters : Nat → Int32) (a_nlen : Nat → Int32) (m_here : Int32) (m_fkind : Int32) (m_fplace : Int32) (m_toks : Int32) (t_types : Nat → Nat) (a_starts : Nat → Int32) (a_tlens : Nat → Int32) (a_tsize : Nat → Int32) (t_word : Nat → Nat) (a_own : Nat → Int32) (a_oth : Nat → Int32) (a_fst : Nat → Int32) (a_snd : Nat → Int32) (a_plc : Nat → Int32) (w0 : Int32) : Option (Int32 × Int32 × Int32 × (Nat → Int32) × (Nat → Int32) × Int32 × Int32 × Int32 × Int32 × (Nat → Nat) × (Nat → Int32) × (Nat → Int32) × (Nat → Int32) × (Nat → Nat) × (Nat → Int32) × (Nat → Int32) × (Nat → Int32) × (Nat → Int32) × (Nat → Int32)) :=
(f_X3_settle m_nsize m_drafted w0).bind (fun q28 =>
if m_fkind = 0 then
some (1, q28.1, q28.2, a_letters, a_nlen, m_here, m_fkind, m_fplace, m_toks, t_types, a_starts, a_tlens, a_tsize, t_word, a_own, a_oth, a_fst, a_snd, a_plc)
else
some (0, q28.1, q28.2, a_letters, a_nlen, m_here, m_fkind, m_fplace, m_toks, t_types, a_starts, a_tlens, a_tsize, t_word, a_own, a_oth, a_fst, a_snd, a_plc))
def f_X5_read_b112 (m_tlen : Int32) (a_bytes : Nat → Int32) (m_nsize : Int32) (m_drafted : Int32) (a_letters : Nat → Int32) (a_nlen : Nat → Int32) (m_here : Int32) (m_fkind : Int32) (m_fplace : Int32) (m_toks : Int32) (t_types : Nat → Nat) (a_starts : Nat → Int32) (a_tlens : Nat → Int32) (a_tsize : Nat → Int32) (t_word : Nat → Nat) (a_own : Nat → Int32) (a_oth : Nat → Int32) (a_fst : Nat → Int32) (a_snd : Nat → Int32) (a_plc : Nat → Int32) : Option (Int32 × Int32 × Int32 × (Nat → Int32) × (Nat → Int32) × Int32 × Int32 × Int32 × Int32 × (Nat → Nat) × (Nat → Int32) × (Nat → Int32) × (Nat → Int32) × (Nat → Nat) × (Nat → Int32) × (Nat → Int32) × (Nat → Int32) × (Nat → Int32) × (Nat → Int32)) :=
if m_fkind = 0 then
f_X5_read_b128 m_tlen a_bytes m_nsize m_drafted a_letters a_nlen m_here m_fkind m_fplace m_toks t_types a_starts a_tlens a_tsize t_word a_own a_oth a_fst a_snd a_plc 1
else
f_X5_read_b128 m_tlen a_bytes m_nsize m_drafted a_letters a_nlen m_here m_fkind m_fplace m_toks t_types a_starts a_tlens a_tsize t_word a_own a_oth a_fst a_snd a_plc 0
def f_X5_read_b86 (m_tlen : Int32) (a_bytes : Nat → Int32) (m_nsize : Int32) (m_drafted : Int32) (a_letters : Nat → Int32) (a_nlen : Nat → Int32) (m_here : Int32) (m_fkind : Int32) (m_fplace : Int32) (m_toks : Int32) (t_types : Nat → Nat) (a_starts : Nat → Int32) (a_tlens : Nat → Int32) (a_tsize : Nat → Int32) (t_word : Nat → Nat) (a_own : Nat → Int32) (a_oth : Nat → Int32) (a_fst : Nat → Int32) (a_snd : Nat → Int32) (a_plc : Nat → Int32) : Option (Int32 × Int32 × Int32 × (Nat → Int32) × (Nat → Int32) × Int32 × Int32 × Int32 × Int32 × (Nat → Nat) × (Nat → Int32) × (Nat → Int32) × (Nat → Int32) × (Nat → Nat) × (Nat → Int32) × (Nat → Int32) × (Nat → Int32) × (Nat → Int32) × (Nat → Int32)) :=
if m_fkind = 0 then
if m_tlen ≤ 400 then
f_X5_read_b112 m_tlen a_bytes m_nsize m_drafted a_letters a_nlen m_here m_fkind m_fplace m_toks t_types a_starts a_tlens a_tsize t_word a_own a_oth a_fst a_snd a_plc
else
(f_X5_refuse m_here m_fkind m_fplace a_starts 1).bind (fun q31 =>
f_X5_read_b112 m_tlen a_bytes m_nsize m_drafted a_letters a_nlen m_here q31.2.1 q31.2.2 m_toks t_types a_starts a_tlens a_tsize t_word a_own a_oth a_fst a_snd a_plc)
else
f_X5_read_b112 m_tlen a_bytes m_nsize m_drafted a_letters a_nlen m_here m_fkind m_fplace m_toks t_types a_starts a_tlens a_tsize t_word a_own a_oth a_fst a_snd a_plc
def f_X5_read (m_tlen : Int32) (a_bytes : Nat → Int32) (m_nsize : Int32) (m_drafted : Int32) (a_letters : Nat → Int32) (a_nlen : Nat → Int32) (m_here : Int32) (m_fkind : Int32) (m_fplace : Int32) (m_toks : Int32) (t_types : Nat → Nat) (a_starts : Nat → Int32) (a_tlens : Nat → Int32) (a_tsize : Nat → Int32) (t_word : Nat → Nat) (a_own : Nat → Int32) (a_oth : Nat → Int32) (a_fst : Nat → Int32) (a_snd : Nat → Int32) (a_plc : Nat → Int32) (p1 : Nat) : Option (Int32 × Int32 × Int32 × (Nat → Int32) × (Nat → Int32) × Int32 × Int32 × Int32 × Int32 × (Nat → Nat) × (Nat → Int32) × (Nat → Int32) × (Nat → Int32) × (Nat → Nat) × (Nat → Int32) × (Nat → Int32) × (Nat → Int32) × (Nat → Int32) × (Nat → Int32)) :=
(f_X10_cut m_tlen a_bytes m_toks t_types a_starts a_tlens).bind (fun q12 =>
gN p1 7 (
(lp (f_X5_read_l28 m_tlen a_bytes m_nsize q12.1 q12.2.1 q12.2.2.1 q12.2.2.2 p1) gFU (0, m_drafted, a_letters, a_nlen, 0, 0, m_fplace, upd a_tsize p1 0, t_word, a_own, a_oth, a_fst, a_snd, a_plc)).bind (fun q25 =>
f_X5_read_b86 m_tlen a_bytes m_nsize q25.2.1 q25.2.2.1 q25.2.2.2.1 q25.2.2.2.2.1 q25.2.2.2.2.2.1 q25.2.2.2.2.2.2.1 q12.1 q12.2.1 q12.2.2.1 q12.2.2.2 q25.2.2.2.2.2.2.2.1 q25.2.2.2.2.2.2.2.2.1 q25.2.2.2.2.2.2.2.2.2.1 q25.2.2.2.2.2.2.2.2.2.2.1 q25.2.2.2.2.2.2.2.2.2.2.2.1 q25.2.2.2.2.2.2.2.2.2.2.2.2.1 q25.2.2.2.2.2.2.2.2.2.2.2.2.2)))
def f_X1_forget (m_wayKnown : Int32) (m_qKnown : Int32) (m_lineKnown : Int32) : Option (Int32 × Int32 × Int32) :=
some (0, 0, 0)
def f_X1_hears (m_heard : Int32) (p1 : Int32) : Option (Int32) :=
if ((m_heard >>> (p1 &&& 31)) &&& 1) = 1 then
some 1
else
some 0
def f_X1_slot (p0 : Int32) (p1 : Int32) : Option (Int32) :=
some ((p0 * 12) + p1)
def f_X1_gather_l33 (m_nsize : Int32) (t_texts : Nat → Nat) (m_nodes : Int32) (a_leftOut : Nat → Int32) (a_tsize : Nat → Int32) (t_word : Nat → Nat) (a_own : Nat → Int32) (a_oth : Nat → Int32) (a_fst : Nat → Int32) (a_snd : Nat → Int32) (u1 : Int32) (u2 : Int32) (sg : Int32 × Int32 × (Nat → Int32) × (Nat → Int32) × (Nat → Int32)) : Option ((Int32 × Int32 × (Nat → Int32) × (Nat → Int32) × (Nat → Int32)) ⊕ (Int32 × Int32 × (Nat → Int32) × (Nat → Int32) × (Nat → Int32))) :=
gIn u2 6 (
gN (t_texts (Int32.toNatClampNeg u2)) 7 (
if (a_tsize (t_texts (Int32.toNatClampNeg u2))) ≤ sg.1 then
some (.inr (sg.1, sg.2.1, sg.2.2.1, sg.2.2.2.1, sg.2.2.2.2))
else
(f_X1_slot u2 sg.1).bind (fun q18 =>
gIn q18 72 (
if (a_leftOut (Int32.toNatClampNeg q18)) = 0 then
gIn u2 6 (
gN (t_texts (Int32.toNatClampNeg u2)) 7 (
gIn sg.1 12 (
gN (12 * (t_texts (Int32.toNatClampNeg u2)) + Int32.toNatClampNeg sg.1) 84 (
(f_X6_putInto14 sg.2.1 sg.2.2.1 sg.2.2.2.1 sg.2.2.2.2 t_word a_own a_oth a_fst a_snd (12 * (t_texts (Int32.toNatClampNeg u2)) + Int32.toNatClampNeg sg.1)).bind (fun q25 =>
some (.inl (sg.1 + 1, q25.1, q25.2.1, q25.2.2.1, q25.2.2.2)))))))
else
some (.inl (sg.1 + 1, sg.2.1, sg.2.2.1, sg.2.2.2.1, sg.2.2.2.2))))))
def f_X1_gather_l16 (m_nsize : Int32) (t_texts : Nat → Nat) (m_nodes : Int32) (a_leftOut : Nat → Int32) (a_tsize : Nat → Int32) (t_word : Nat → Nat) (a_own : Nat → Int32) (a_oth : Nat → Int32) (a_fst : Nat → Int32) (a_snd : Nat → Int32) (u1 : Int32) (sg : Int32 × Int32 × (Nat → Int32) × (Nat → Int32) × (Nat → Int32)) : Option ((Int32 × Int32 × (Nat → Int32) × (Nat → Int32) × (Nat → Int32)) ⊕ (Int32 × Int32 × (Nat → Int32) × (Nat → Int32) × (Nat → Int32))) :=
if 6 ≤ sg.1 then
some (.inr (sg.1, sg.2.1, sg.2.2.1, sg.2.2.2.1, sg.2.2.2.2))
else
if ((u1 >>> (sg.1 &&& 31)) &&& 1) = 1 then
(lp (f_X1_gather_l33 m_nsize t_texts m_nodes a_leftOut a_tsize t_word a_own a_oth a_fst a_snd u1 sg.1) gFU (0, sg.2.1, sg.2.2.1, sg.2.2.2.1, sg.2.2.2.2)).bind (fun q26 =>
some (.inl (sg.1 + 1, q26.2.1, q26.2.2.1, q26.2.2.2.1, q26.2.2.2.2)))
else
some (.inl (sg.1 + 1, sg.2.1, sg.2.2.1, sg.2.2.2.1, sg.2.2.2.2))
def f_X1_gather (m_nsize : Int32) (t_texts : Nat → Nat) (m_nodes : Int32) (m_lsize : Int32) (a_tails : Nat → Int32) (a_heads : Nat → Int32) (a_gaps : Nat → Int32) (a_leftOut : Nat → Int32) (a_tsize : Nat → Int32) (t_word : Nat → Nat) (a_own : Nat → Int32) (a_oth : Nat → Int32) (a_fst : Nat → Int32) (a_snd : Nat → Int32) (p1 : Int32) : Option (Int32 × Int32 × (Nat → Int32) × (Nat → Int32) × (Nat → Int32)) :=
(f_X4_open m_nodes m_lsize a_tails a_heads a_gaps m_nsize).bind (fun q12 =>
(lp (f_X1_gather_l16 m_nsize t_texts q12.1 a_leftOut a_tsize t_word a_own a_oth a_fst a_snd p1) gFU (0, q12.2.1, q12.2.2.1, q12.2.2.2.1, q12.2.2.2.2)).bind (fun q27 =>
some (q12.1, q27.2.1, q27.2.2.1, q27.2.2.2.1, q27.2.2.2.2)))
def f_X1_isWayFor (m_nsize : Int32) (t_texts : Nat → Nat) (m_nodes : Int32) (m_lsize : Int32) (a_tails : Nat → Int32) (a_heads : Nat → Int32) (a_gaps : Nat → Int32) (a_least : Nat → Int32) (a_leftOut : Nat → Int32) (a_tsize : Nat → Int32) (t_word : Nat → Nat) (a_own : Nat → Int32) (a_oth : Nat → Int32) (a_fst : Nat → Int32) (a_snd : Nat → Int32) (p1 : Int32) : Option (Int32 × Int32 × Int32 × (Nat → Int32) × (Nat → Int32) × (Nat → Int32) × (Nat → Int32)) :=
(f_X1_gather m_nsize t_texts m_nodes m_lsize a_tails a_heads a_gaps a_leftOut a_tsize t_word a_own a_oth a_fst a_snd p1).bind (fun q3 =>
(f_X4_measureFrom q3.1 q3.2.1 q3.2.2.1 q3.2.2.2.1 q3.2.2.2.2 a_least 0).bind (fun q4 =>
gB q4.1 (
some (q4.1, q3.1, q3.2.1, q3.2.2.1, q3.2.2.2.1, q3.2.2.2.2, q4.2))))
def f_X1_hasWay_b24 (m_nsize : Int32) (t_texts : Nat → Nat) (m_heard : Int32) (m_wayKnown : Int32) (m_way : Int32) (m_nodes : Int32) (m_lsize : Int32) (a_tails : Nat → Int32) (a_heads : Nat → Int32) (a_gaps : Nat → Int32) (a_least : Nat → Int32) (a_leftOut : Nat → Int32) (a_tsize : Nat → Int32) (t_word : Nat → Nat) (a_own : Nat → Int32) (a_oth : Nat → Int32) (a_fst : Nat → Int32) (a_snd : Nat → Int32) : Option (Int32 × Int32 × Int32 × Int32 × Int32 × (Nat → Int32) × (Nat → Int32) × (Nat → Int32) × (Nat → Int32)) :=
gB m_way (
some (m_way, m_wayKnown, m_way, m_nodes, m_lsize, a_tails, a_heads, a_gaps, a_least))
def f_X1_hasWay (m_nsize : Int32) (t_texts : Nat → Nat) (m_heard : Int32) (m_wayKnown : Int32) (m_way : Int32) (m_nodes : Int32) (m_lsize : Int32) (a_tails : Nat → Int32) (a_heads : Nat → Int32) (a_gaps : Nat → Int32) (a_least : Nat → Int32) (a_leftOut : Nat → Int32) (a_tsize : Nat → Int32) (t_word : Nat → Nat) (a_own : Nat → Int32) (a_oth : Nat → Int32) (a_fst : Nat → Int32) (a_snd : Nat → Int32) : Option (Int32 × Int32 × Int32 × Int32 × Int32 × (Nat → Int32) × (Nat → Int32) × (Nat → Int32) × (Nat → Int32)) :=
if m_wayKnown = 0 then
(f_X1_isWayFor m_nsize t_texts m_nodes m_lsize a_tails a_heads a_gaps a_least a_leftOut a_tsize t_word a_own a_oth a_fst a_snd m_heard).bind (fun q5 =>
gB q5.1 (
f_X1_hasWay_b24 m_nsize t_texts m_heard 1 q5.1 q5.2.1 q5.2.2.1 q5.2.2.2.1 q5.2.2.2.2.1 q5.2.2.2.2.2.1 q5.2.2.2.2.2.2 a_leftOut a_tsize t_word a_own a_oth a_fst a_snd))
else
f_X1_hasWay_b24 m_nsize t_texts m_heard m_wayKnown m_way m_nodes m_lsize a_tails a_heads a_gaps a_least a_leftOut a_tsize t_word a_own a_oth a_fst a_snd
def f_X1_least (m_nsize : Int32) (t_texts : Nat → Nat) (m_heard : Int32) (m_nodes : Int32) (m_lsize : Int32) (a_tails : Nat → Int32) (a_heads : Nat → Int32) (a_gaps : Nat → Int32) (a_least : Nat → Int32) (a_leftOut : Nat → Int32) (a_tsize : Nat → Int32) (t_word : Nat → Nat) (a_own : Nat → Int32) (a_oth : Nat → Int32) (a_fst : Nat → Int32) (a_snd : Nat → Int32) (p1 : Int32) (p2 : Int32) : Option (Int32 × Int32 × Int32 × (Nat → Int32) × (Nat → Int32) × (Nat → Int32) × (Nat → Int32)) :=
(f_X1_gather m_nsize t_texts m_nodes m_lsize a_tails a_heads a_gaps a_leftOut a_tsize t_word a_own a_oth a_fst a_snd m_heard).bind (fun q4 =>
(f_X4_measureFrom q4.1 q4.2.1 q4.2.2.1 q4.2.2.2.1 q4.2.2.2.2 a_least p1).bind (fun q5 =>
gIn p2 41 (
some (q5.2 (Int32.toNatClampNeg p2), q4.1, q4.2.1, q4.2.2.1, q4.2.2.2.1, q4.2.2.2.2, q5.2))))
def f_X1_greatest (m_nsize : Int32) (t_texts : Nat → Nat) (m_heard : Int32) (m_nodes : Int32) (m_lsize : Int32) (a_tails : Nat → Int32) (a_heads : Nat → Int32) (a_gaps : Nat → Int32) (a_least : Nat → Int32) (a_leftOut : Nat → Int32) (a_tsize : Nat → Int32) (t_word : Nat → Nat) (a_own : Nat → Int32) (a_oth : Nat → Int32) (a_fst : Nat → Int32) (a_snd : Nat → Int32) (p1 : Int32) (p2 : Int32) : Option (Int32 × Int32 × Int32 × (Nat → Int32) × (Nat → Int32) × (Nat → Int32) × (Nat → Int32)) :=
(f_X1_least m_nsize t_texts m_heard m_nodes m_lsize a_tails a_heads a_gaps a_least a_leftOut a_tsize t_word a_own a_oth a_fst a_snd p2 p1).bind (fun q2 =>
some (-q2.1, q2.2.1, q2.2.2.1, q2.2.2.2.1, q2.2.2.2.2.1, q2.2.2.2.2.2.1, q2.2.2.2.2.2.2))
def f_X1_findQuarrel_l28 (m_nsize : Int32) (t_texts : Nat → Nat) (m_heard : Int32) (m_qKnown : Int32) (a_tsize : Nat → Int32) (t_word : Nat → Nat) (a_own : Nat → Int32) (a_oth : Nat → Int32) (a_fst : Nat → Int32) (a_snd : Nat → Int32) (u1 : Int32) (sg : Int32 × Int32 × Int32 × Int32 × (Nat → Int32) × (Nat → Int32) × (Nat → Int32) × (Nat → Int32) × (Nat → Int32) × (Nat → Int32)) : Option ((Int32 × Int32 × Int32 × Int32 × (Nat → Int32) × (Nat → Int32) × (Nat → Int32) × (Nat → Int32) × (Nat → Int32) × (Nat → Int32)) ⊕ (Int32 × Int32 × Int32 × Int32 × (Nat → Int32) × (Nat → Int32) × (Nat → Int32) × (Nat → Int32) × (Nat → Int32) × (Nat → Int32))) :=
(f_X1_hears m_heard u1).bind (fun q13 =>
if q13 = 0 then
some (.inr (sg.1, sg.2.1, sg.2.2.1, sg.2.2.2.1, sg.2.2.2.2.1, sg.2.2.2.2.2.1, sg.2.2.2.2.2.2.1, sg.2.2.2.2.2.2.2.1, sg.2.2.2.2.2.2.2.2.1, sg.2.2.2.2.2.2.2.2.2))
else
gIn u1 6 (
gN (t_texts (Int32.toNatClampNeg u1)) 7 (
if (a_tsize (t_texts (Int32.toNatClampNeg u1))) ≤ sg.1 then
some (.inr (sg.1, sg.2.1, sg.2.2.1, sg.2.2.2.1, sg.2.2.2.2.1, sg.2.2.2.2.2.1, sg.2.2.2.2.2.2.1, sg.2.2.2.2.2.2.2.1, sg.2.2.2.2.2.2.2.2.1, sg.2.2.2.2.2.2.2.2.2))
else
(f_X1_slot u1 sg.1).bind (fun q18 =>
gIn q18 72 (
(f_X1_isWayFor m_nsize t_texts sg.2.2.1 sg.2.2.2.1 sg.2.2.2.2.1 sg.2.2.2.2.2.1 sg.2.2.2.2.2.2.1 sg.2.2.2.2.2.2.2.1 (upd sg.2.2.2.2.2.2.2.2.1 (Int32.toNatClampNeg q18) (vp_nar .boolean 1)) a_tsize t_word a_own a_oth a_fst a_snd m_heard).bind (fun q20 =>
if q20.1 = 0 then
some (.inl (sg.1 + 1, sg.2.1, q20.2.1, q20.2.2.1, q20.2.2.2.1, q20.2.2.2.2.1, q20.2.2.2.2.2.1, q20.2.2.2.2.2.2, upd sg.2.2.2.2.2.2.2.2.1 (Int32.toNatClampNeg q18) (vp_nar .boolean 1), sg.2.2.2.2.2.2.2.2.2))
else
(f_X1_slot u1 sg.1).bind (fun q22 =>
gIn q22 72 (
gIn sg.2.1 72 (
some (.inl (sg.1 + 1, sg.2.1 + 1, q20.2.1, q20.2.2.1, q20.2.2.2.1, q20.2.2.2.2.1, q20.2.2.2.2.2.1, q20.2.2.2.2.2.2, upd (upd sg.2.2.2.2.2.2.2.2.1 (Int32.toNatClampNeg q18) (vp_nar .boolean 1)) (Int32.toNatClampNeg q22) (vp_nar .boolean 0), upd sg.2.2.2.2.2.2.2.2.2 (Int32.toNatClampNeg sg.2.1) ((100 * u1) + sg.1))))))))))))
def f_X1_findQuarrel_l20 (m_nsize : Int32) (t_texts : Nat → Nat) (m_heard : Int32) (m_qKnown : Int32) (a_tsize : Nat → Int32) (t_word : Nat → Nat) (a_own : Nat → Int32) (a_oth : Nat → Int32) (a_fst : Nat → Int32) (a_snd : Nat → Int32) (sg : Int32 × Int32 × Int32 × Int32 × (Nat → Int32) × (Nat → Int32) × (Nat → Int32) × (Nat → Int32) × (Nat → Int32) × (Nat → Int32)) : Option ((Int32 × Int32 × Int32 × Int32 × (Nat → Int32) × (Nat → Int32) × (Nat → Int32) × (Nat → Int32) × (Nat → Int32) × (Nat → Int32)) ⊕ (Int32 × Int32 × Int32 × Int32 × (Nat → Int32) × (Nat → Int32) × (Nat → Int32) × (Nat → Int32) × (Nat → Int32) × (Nat → Int32))) :=
if 6 ≤ sg.1 then
some (.inr (sg.1, sg.2.1, sg.2.2.1, sg.2.2.2.1, sg.2.2.2.2.1, sg.2.2.2.2.2.1, sg.2.2.2.2.2.2.1, sg.2.2.2.2.2.2.2.1, sg.2.2.2.2.2.2.2.2.1, sg.2.2.2.2.2.2.2.2.2))
else
(lp (f_X1_findQuarrel_l28 m_nsize t_texts m_heard m_qKnown a_tsize t_word a_own a_oth a_fst a_snd sg.1) gFU (0, sg.2.1, sg.2.2.1, sg.2.2.2.1, sg.2.2.2.2.1, sg.2.2.2.2.2.1, sg.2.2.2.2.2.2.1, sg.2.2.2.2.2.2.2.1, sg.2.2.2.2.2.2.2.2.1, sg.2.2.2.2.2.2.2.2.2)).bind (fun q25 =>
some (.inl (sg.1 + 1, q25.2.1, q25.2.2.1, q25.2.2.2.1, q25.2.2.2.2.1, q25.2.2.2.2.2.1, q25.2.2.2.2.2.2.1, q25.2.2.2.2.2.2.2.1, q25.2.2.2.2.2.2.2.2.1, q25.2.2.2.2.2.2.2.2.2)))
def f_X1_findQuarrel_l121 (m_nsize : Int32) (t_texts : Nat → Nat) (m_heard : Int32) (m_qsize : Int32) (m_qKnown : Int32) (m_nodes : Int32) (m_lsize : Int32) (a_tails : Nat → Int32) (a_heads : Nat → Int32) (a_gaps : Nat → Int32) (a_least : Nat → Int32) (a_qrow : Nat → Int32) (a_tsize : Nat → Int32) (t_word : Nat → Nat) (a_own : Nat → Int32) (a_oth : Nat → Int32) (a_fst : Nat → Int32) (a_snd : Nat → Int32) (sg : Int32 × (Nat → Int32)) : Option ((Int32 × (Nat → Int32)) ⊕ (Int32 × (Nat → Int32))) :=
if 72 ≤ sg.1 then
some (.inr (sg.1, sg.2))
else
gIn sg.1 72 (
some (.inl (sg.1 + 1, upd sg.2 (Int32.toNatClampNeg sg.1) (vp_nar .boolean 0))))
def f_X1_findQuarrel (m_nsize : Int32) (t_texts : Nat → Nat) (m_heard : Int32) (m_qsize : Int32) (m_qKnown : Int32) (m_nodes : Int32) (m_lsize : Int32) (a_tails : Nat → Int32) (a_heads : Nat → Int32) (a_gaps : Nat → Int32) (a_least : Nat → Int32) (a_leftOut : Nat → Int32) (a_qrow : Nat → Int32) (a_tsize : Nat → Int32) (t_word : Nat → Nat) (a_own : Nat → Int32) (a_oth : Nat → Int32) (a_fst : Nat → Int32) (a_snd : Nat → Int32) : Option (Int32 × Int32 × Int32 × Int32 × (Nat → Int32) × (Nat → Int32) × (Nat → Int32) × (Nat → Int32) × (Nat → Int32) × (Nat → Int32)) :=
if m_qKnown = 0 then
(lp (f_X1_findQuarrel_l20 m_nsize t_texts m_heard 1 a_tsize t_word a_own a_oth a_fst a_snd) gFU (0, 0, m_nodes, m_lsize, a_tails, a_heads, a_gaps, a_least, a_leftOut, a_qrow)).bind (fun q26 =>
(lp (f_X1_findQuarrel_l121 m_nsize t_texts m_heard q26.2.1 1 q26.2.2.1 q26.2.2.2.1 q26.2.2.2.2.1 q26.2.2.2.2.2.1 q26.2.2.2.2.2.2.1 q26.2.2.2.2.2.2.2.1 q26.2.2.2.2.2.2.2.2.2 a_tsize t_word a_own a_oth a_fst a_snd) gFU (0, q26.2.2.2.2.2.2.2.2.1)).bind (fun q29 =>
some (q26.2.1, 1, q26.2.2.1, q26.2.2.2.1, q26.2.2.2.2.1, q26.2.2.2.2.2.1, q26.2.2.2.2.2.2.1, q26.2.2.2.2.2.2.2.1, q29.2, q26.2.2.2.2.2.2.2.2.2)))
else
some (m_qsize, m_qKnown, m_nodes, m_lsize, a_tails, a_heads, a_gaps, a_least, a_leftOut, a_qrow)
def f_X1_fewestToLeave_b41 (m_nsize : Int32) (t_texts : Nat → Nat) (m_heard : Int32) (m_wayKnown : Int32) (m_way : Int32) (m_nodes : Int32) (m_lsize : Int32) (a_tails : Nat → Int32) (a_heads : Nat → Int32) (a_gaps : Nat → Int32) (a_least : Nat → Int32) (a_leftOut : Nat → Int32) (a_tsize : Nat → Int32) (t_word : Nat → Nat) (a_own : Nat → Int32) (a_oth : Nat → Int32) (a_fst : Nat → Int32) (a_snd : Nat → Int32) (u1 : Int32) (u2 : Int32) (w0 : Int32) : Option ((Int32 × Int32 × Int32 × (Nat → Int32) × (Nat → Int32) × (Nat → Int32) × (Nat → Int32)) ⊕ ((Int32 × Int32 × Int32 × (Nat → Int32) × (Nat → Int32) × (Nat → Int32) × (Nat → Int32)) ⊕ (Int32 × Int32 × Int32 × Int32 × Int32 × (Nat → Int32) × (Nat → Int32) × (Nat → Int32) × (Nat → Int32)))) :=
if w0 = 0 then
some (.inl (u2 + 1, m_nodes, m_lsize, a_tails, a_heads, a_gaps, a_least))
else
(f_J6_bitCount_0f7a4 u2).bind (fun q10 =>
if q10 = u1 then
(f_X1_isWayFor m_nsize t_texts m_nodes m_lsize a_tails a_heads a_gaps a_least a_leftOut a_tsize t_word a_own a_oth a_fst a_snd (m_heard &&& (u2 ^^^ (-1)))).bind (fun q12 =>
if q12.1 = 0 then
some (.inl (u2 + 1, q12.2.1, q12.2.2.1, q12.2.2.2.1, q12.2.2.2.2.1, q12.2.2.2.2.2.1, q12.2.2.2.2.2.2))
else
some (.inr (.inr (u2, m_wayKnown, m_way, q12.2.1, q12.2.2.1, q12.2.2.2.1, q12.2.2.2.2.1, q12.2.2.2.2.2.1, q12.2.2.2.2.2.2))))
else
some (.inl (u2 + 1, m_nodes, m_lsize, a_tails, a_heads, a_gaps, a_least)))
def f_X1_fewestToLeave_l19 (m_nsize : Int32) (t_texts : Nat → Nat) (m_heard : Int32) (m_wayKnown : Int32) (m_way : Int32) (a_leftOut : Nat → Int32) (a_tsize : Nat → Int32) (t_word : Nat → Nat) (a_own : Nat → Int32) (a_oth : Nat → Int32) (a_fst : Nat → Int32) (a_snd : Nat → Int32) (u1 : Int32) (sg : Int32 × Int32 × Int32 × (Nat → Int32) × (Nat → Int32) × (Nat → Int32) × (Nat → Int32)) : Option ((Int32 × Int32 × Int32 × (Nat → Int32) × (Nat → Int32) × (Nat → Int32) × (Nat → Int32)) ⊕ ((Int32 × Int32 × Int32 × (Nat → Int32) × (Nat → Int32) × (Nat → Int32) × (Nat → Int32)) ⊕ (Int32 × Int32 × Int32 × Int32 × Int32 × (Nat → Int32) × (Nat → Int32) × (Nat → Int32) × (Nat → Int32)))) :=
if 63 ≤ sg.1 then
some (.inr (.inl (sg.1, sg.2.1, sg.2.2.1, sg.2.2.2.1, sg.2.2.2.2.1, sg.2.2.2.2.2.1, sg.2.2.2.2.2.2)))
else
if (sg.1 &&& (m_heard ^^^ (-1))) = 0 then
f_X1_fewestToLeave_b41 m_nsize t_texts m_heard m_wayKnown m_way sg.2.1 sg.2.2.1 sg.2.2.2.1 sg.2.2.2.2.1 sg.2.2.2.2.2.1 sg.2.2.2.2.2.2 a_leftOut a_tsize t_word a_own a_oth a_fst a_snd u1 sg.1 1
else
f_X1_fewestToLeave_b41 m_nsize t_texts m_heard m_wayKnown m_way sg.2.1 sg.2.2.1 sg.2.2.2.1 sg.2.2.2.2.1 sg.2.2.2.2.2.1 sg.2.2.2.2.2.2 a_leftOut a_tsize t_word a_own a_oth a_fst a_snd u1 sg.1 0
def f_X1_fewestToLeave_l11 (m_nsize : Int32) (t_texts : Nat → Nat) (m_heard : Int32) (m_wayKnown : Int32) (m_way : Int32) (a_leftOut : Nat → Int32) (a_tsize : Nat → Int32) (t_word : Nat → Nat) (a_own : Nat → Int32) (a_oth : Nat → Int32) (a_fst : Nat → Int32) (a_snd : Nat → Int32) (sg : Int32 × Int32 × Int32 × (Nat → Int32) × (Nat → Int32) × (Nat → Int32) × (Nat → Int32)) : Option ((Int32 × Int32 × Int32 × (Nat → Int32) × (Nat → Int32) × (Nat → Int32) × (Nat → Int32)) ⊕ ((Int32 × Int32 × Int32 × (Nat → Int32) × (Nat → Int32) × (Nat → Int32) × (Nat → Int32)) ⊕ (Int32 × Int32 × Int32 × Int32 × Int32 × (Nat → Int32) × (Nat → Int32) × (Nat → Int32) × (Nat → Int32)))) :=
if 6 ≤ sg.1 then
some (.inr (.inl (sg.1, sg.2.1, sg.2.2.1, sg.2.2.2.1, sg.2.2.2.2.1, sg.2.2.2.2.2.1, sg.2.2.2.2.2.2)))
else
(lp (f_X1_fewestToLeave_l19 m_nsize t_texts m_heard m_wayKnown m_way a_leftOut a_tsize t_word a_own a_oth a_fst a_snd sg.1) gFU (1, sg.2.1, sg.2.2.1, sg.2.2.2.1, sg.2.2.2.2.1, sg.2.2.2.2.2.1, sg.2.2.2.2.2.2)).bind (fun q14 => Sum.elim (fun t15 =>
some (.inl (sg.1 + 1, t15.2.1, t15.2.2.1, t15.2.2.2.1, t15.2.2.2.2.1, t15.2.2.2.2.2.1, t15.2.2.2.2.2.2))) (fun r16 => some (.inr (.inr r16))) q14)
def f_X1_fewestToLeave (m_nsize : Int32) (t_texts : Nat → Nat) (m_heard : Int32) (m_wayKnown : Int32) (m_way : Int32) (m_nodes : Int32) (m_lsize : Int32) (a_tails : Nat → Int32) (a_heads : Nat → Int32) (a_gaps : Nat → Int32) (a_least : Nat → Int32) (a_leftOut : Nat → Int32) (a_tsize : Nat → Int32) (t_word : Nat → Nat) (a_own : Nat → Int32) (a_oth : Nat → Int32) (a_fst : Nat → Int32) (a_snd : Nat → Int32) : Option (Int32 × Int32 × Int32 × Int32 × Int32 × (Nat → Int32) × (Nat → Int32) × (Nat → Int32) × (Nat → Int32)) :=
(f_X1_hasWay m_nsize t_texts m_heard m_wayKnown m_way m_nodes m_lsize a_tails a_heads a_gaps a_least a_leftOut a_tsize t_word a_own a_oth a_fst a_snd).bind (fun q4 =>
if q4.1 = 0 then
(lp (f_X1_fewestToLeave_l11 m_nsize t_texts m_heard q4.2.1 q4.2.2.1 a_leftOut a_tsize t_word a_own a_oth a_fst a_snd) gFU (1, q4.2.2.2.1, q4.2.2.2.2.1, q4.2.2.2.2.2.1, q4.2.2.2.2.2.2.1, q4.2.2.2.2.2.2.2.1, q4.2.2.2.2.2.2.2.2)).bind (fun q17 => Sum.elim (fun t18 =>
some (m_heard, q4.2.1, q4.2.2.1, t18.2.1, t18.2.2.1, t18.2.2.2.1, t18.2.2.2.2.1, t18.2.2.2.2.2.1, t18.2.2.2.2.2.2)) (fun r19 => some r19) q17)
else
some (0, q4.2.1, q4.2.2.1, q4.2.2.2.1, q4.2.2.2.2.1, q4.2.2.2.2.2.1, q4.2.2.2.2.2.2.1, q4.2.2.2.2.2.2.2.1, q4.2.2.2.2.2.2.2.2))
def f_X1_followsFromOthers_l58 (m_nsize : Int32) (t_texts : Nat → Nat) (m_heard : Int32) (m_nodes : Int32) (m_lsize : Int32) (a_tails : Nat → Int32) (a_heads : Nat → Int32) (a_gaps : Nat → Int32) (m_csize : Int32) (a_ctails : Nat → Int32) (a_cheads : Nat → Int32) (a_cgaps : Nat → Int32) (a_leftOut : Nat → Int32) (a_tsize : Nat → Int32) (t_word : Nat → Nat) (a_own : Nat → Int32) (a_oth : Nat → Int32) (a_fst : Nat → Int32) (a_snd : Nat → Int32) (sg : Int32 × (Nat → Int32)) : Option ((Int32 × (Nat → Int32)) ⊕ ((Int32 × (Nat → Int32)) ⊕ (Int32 × Int32 × Int32 × (Nat → Int32) × (Nat → Int32) × (Nat → Int32) × (Nat → Int32) × Int32 × (Nat → Int32) × (Nat → Int32) × (Nat → Int32) × (Nat → Int32)))) :=
if m_csize ≤ sg.1 then
some (.inr (.inl (sg.1, sg.2)))
else
gIn sg.1 4 (
(f_X4_measureFrom m_nodes m_lsize a_tails a_heads a_gaps sg.2 (a_ctails (Int32.toNatClampNeg sg.1))).bind (fun q29 =>
gIn sg.1 4 (
gIn (a_cheads (Int32.toNatClampNeg sg.1)) 41 (
gIn sg.1 4 (
if (a_cgaps (Int32.toNatClampNeg sg.1)) ≤ (q29.2 (Int32.toNatClampNeg (a_cheads (Int32.toNatClampNeg sg.1)))) then
some (.inl (sg.1 + 1, q29.2))
else
some (.inr (.inr (0, m_nodes, m_lsize, a_tails, a_heads, a_gaps, q29.2, m_csize, a_ctails, a_cheads, a_cgaps, a_leftOut))))))))
def f_X1_followsFromOthers (m_nsize : Int32) (t_texts : Nat → Nat) (m_heard : Int32) (m_nodes : Int32) (m_lsize : Int32) (a_tails : Nat → Int32) (a_heads : Nat → Int32) (a_gaps : Nat → Int32) (a_least : Nat → Int32) (m_csize : Int32) (a_ctails : Nat → Int32) (a_cheads : Nat → Int32) (a_cgaps : Nat → Int32) (a_leftOut : Nat → Int32) (a_tsize : Nat → Int32) (t_word : Nat → Nat) (a_own : Nat → Int32) (a_oth : Nat → Int32) (a_fst : Nat → Int32) (a_snd : Nat → Int32) (p1 : Int32) (p2 : Int32) : Option (Int32 × Int32 × Int32 × (Nat → Int32) × (Nat → Int32) × (Nat → Int32) × (Nat → Int32) × Int32 × (Nat → Int32) × (Nat → Int32) × (Nat → Int32) × (Nat → Int32)) :=
(f_X1_slot p1 p2).bind (fun q17 =>
gIn q17 72 (
(f_X1_gather m_nsize t_texts m_nodes m_lsize a_tails a_heads a_gaps (upd a_leftOut (Int32.toNatClampNeg q17) (vp_nar .boolean 1)) a_tsize t_word a_own a_oth a_fst a_snd m_heard).bind (fun q19 =>
(f_X1_slot p1 p2).bind (fun q20 =>
gIn q20 72 (
gIn p1 6 (
gN (t_texts (Int32.toNatClampNeg p1)) 7 (
gIn p2 12 (
gN (12 * (t_texts (Int32.toNatClampNeg p1)) + Int32.toNatClampNeg p2) 84 (
(f_X6_putInto19 0 a_ctails a_cheads a_cgaps t_word a_own a_oth a_fst a_snd (12 * (t_texts (Int32.toNatClampNeg p1)) + Int32.toNatClampNeg p2)).bind (fun q26 =>
(lp (f_X1_followsFromOthers_l58 m_nsize t_texts m_heard q19.1 q19.2.1 q19.2.2.1 q19.2.2.2.1 q19.2.2.2.2 q26.1 q26.2.1 q26.2.2.1 q26.2.2.2 (upd (upd a_leftOut (Int32.toNatClampNeg q17) (vp_nar .boolean 1)) (Int32.toNatClampNeg q20) (vp_nar .boolean 0)) a_tsize t_word a_own a_oth a_fst a_snd) gFU (0, a_least)).bind (fun q34 => Sum.elim (fun t35 =>
some (1, q19.1, q19.2.1, q19.2.2.1, q19.2.2.2.1, q19.2.2.2.2, t35.2, q26.1, q26.2.1, q26.2.2.1, q26.2.2.2, upd (upd a_leftOut (Int32.toNatClampNeg q17) (vp_nar .boolean 1)) (Int32.toNatClampNeg q20) (vp_nar .boolean 0))) (fun r36 => some r36) q34)))))))))))
def f_X1_isEarlier (a_least : Nat → Int32) (p1 : Int32) (p2 : Int32) : Option (Int32) :=
(f_X4_firstOf p1).bind (fun q10 =>
gIn q10 41 (
(f_X4_firstOf p2).bind (fun q12 =>
gIn q12 41 (
(f_J6_compare_7cf53 (a_least (Int32.toNatClampNeg q10)) (a_least (Int32.toNatClampNeg q12))).bind (fun q14 =>
if q14 = 0 then
(f_X4_lastOf p1).bind (fun q16 =>
gIn q16 41 (
(f_X4_lastOf p2).bind (fun q18 =>
gIn q18 41 (
if (a_least (Int32.toNatClampNeg q18)) ≤ (a_least (Int32.toNatClampNeg q16)) then
some 0
else
some 1))))
else
if 0 ≤ q14 then
some 0
else
some 1)))))
def f_X1_findLine_l37 (m_nsize : Int32) (t_texts : Nat → Nat) (m_heard : Int32) (m_lineKnown : Int32) (m_nodes : Int32) (m_lsize : Int32) (a_tails : Nat → Int32) (a_heads : Nat → Int32) (a_gaps : Nat → Int32) (a_least : Nat → Int32) (a_leftOut : Nat → Int32) (a_tsize : Nat → Int32) (t_word : Nat → Nat) (a_own : Nat → Int32) (a_oth : Nat → Int32) (a_fst : Nat → Int32) (a_snd : Nat → Int32) (u1 : Int32) (sg : Int32 × (Nat → Int32)) : Option ((Int32 × (Nat → Int32)) ⊕ (Int32 × (Nat → Int32))) :=
if sg.1 ≤ 0 then
some (.inr (sg.1, sg.2))
else
gIn (sg.1 - 1) 20 (
(f_X1_isEarlier a_least u1 (sg.2 (Int32.toNatClampNeg (sg.1 - 1)))).bind (fun q12 =>
if q12 = 0 then
some (.inr (sg.1, sg.2))
else
gIn (sg.1 - 1) 20 (
gIn sg.1 20 (
some (.inl (sg.1 + (-1), upd sg.2 (Int32.toNatClampNeg sg.1) (sg.2 (Int32.toNatClampNeg (sg.1 - 1)))))))))
def f_X1_findLine_b77 (m_nsize : Int32) (t_texts : Nat → Nat) (m_heard : Int32) (m_lineKnown : Int32) (m_nodes : Int32) (m_lsize : Int32) (a_tails : Nat → Int32) (a_heads : Nat → Int32) (a_gaps : Nat → Int32) (a_least : Nat → Int32) (a_leftOut : Nat → Int32) (a_line : Nat → Int32) (a_tsize : Nat → Int32) (t_word : Nat → Nat) (a_own : Nat → Int32) (a_oth : Nat → Int32) (a_fst : Nat → Int32) (a_snd : Nat → Int32) (u1 : Int32) (u2 : Int32) : Option ((Int32 × (Nat → Int32)) ⊕ (Int32 × (Nat → Int32))) :=
gIn u2 20 (
some (.inl (u1 + 1, upd a_line (Int32.toNatClampNeg u2) u1)))
def f_X1_findLine_l24 (m_nsize : Int32) (t_texts : Nat → Nat) (m_heard : Int32) (m_lineKnown : Int32) (m_nodes : Int32) (m_lsize : Int32) (a_tails : Nat → Int32) (a_heads : Nat → Int32) (a_gaps : Nat → Int32) (a_least : Nat → Int32) (a_leftOut : Nat → Int32) (a_tsize : Nat → Int32) (t_word : Nat → Nat) (a_own : Nat → Int32) (a_oth : Nat → Int32) (a_fst : Nat → Int32) (a_snd : Nat → Int32) (sg : Int32 × (Nat → Int32)) : Option ((Int32 × (Nat → Int32)) ⊕ (Int32 × (Nat → Int32))) :=
if m_nsize ≤ sg.1 then
some (.inr (sg.1, sg.2))
else
(lp (f_X1_findLine_l37 m_nsize t_texts m_heard m_lineKnown m_nodes m_lsize a_tails a_heads a_gaps a_least a_leftOut a_tsize t_word a_own a_oth a_fst a_snd sg.1) gFU (sg.1, sg.2)).bind (fun q16 =>
f_X1_findLine_b77 m_nsize t_texts m_heard m_lineKnown m_nodes m_lsize a_tails a_heads a_gaps a_least a_leftOut q16.2 a_tsize t_word a_own a_oth a_fst a_snd sg.1 q16.1)
def f_X1_findLine (m_nsize : Int32) (t_texts : Nat → Nat) (m_heard : Int32) (m_lineKnown : Int32) (m_nodes : Int32) (m_lsize : Int32) (a_tails : Nat → Int32) (a_heads : Nat → Int32) (a_gaps : Nat → Int32) (a_least : Nat → Int32) (a_leftOut : Nat → Int32) (a_line : Nat → Int32) (a_tsize : Nat → Int32) (t_word : Nat → Nat) (a_own : Nat → Int32) (a_oth : Nat → Int32) (a_fst : Nat → Int32) (a_snd : Nat → Int32) : Option (Int32 × Int32 × Int32 × (Nat → Int32) × (Nat → Int32) × (Nat → Int32) × (Nat → Int32) × (Nat → Int32)) :=
if m_lineKnown = 0 then
(f_X1_isWayFor m_nsize t_texts m_nodes m_lsize a_tails a_heads a_gaps a_least a_leftOut a_tsize t_word a_own a_oth a_fst a_snd m_heard).bind (fun q8 =>
(lp (f_X1_findLine_l24 m_nsize t_texts m_heard 1 q8.2.1 q8.2.2.1 q8.2.2.2.1 q8.2.2.2.2.1 q8.2.2.2.2.2.1 q8.2.2.2.2.2.2 a_leftOut a_tsize t_word a_own a_oth a_fst a_snd) gFU (0, a_line)).bind (fun q18 =>
some (1, q8.2.1, q8.2.2.1, q8.2.2.2.1, q8.2.2.2.2.1, q8.2.2.2.2.2.1, q8.2.2.2.2.2.2, q18.2)))
else
some (m_lineKnown, m_nodes, m_lsize, a_tails, a_heads, a_gaps, a_least, a_line)
def f_X11_feed (m_tlen : Int32) (a_bytes : Nat → Int32) (p1 : Int32) (p2 : Int32) (p3 : Int32) (p4 : Int32) (p5 : Int32) : Option (Int32 × Int32 × (Nat → Int32)) :=
if m_tlen ≤ 420 then
(f_X7_putNumber m_tlen a_bytes p1).bind (fun q7 =>
(f_X7_putNumber q7.1 q7.2 p2).bind (fun q8 =>
(f_X7_putNumber q8.1 q8.2 p3).bind (fun q9 =>
(f_X7_putNumber q9.1 q9.2 p4).bind (fun q10 =>
(f_X7_putNumber q10.1 q10.2 p5).bind (fun q11 =>
some (q11.1, q11.1, q11.2))))))
else
some ((-1), m_tlen, a_bytes)
def f_X11_end (m_tlen : Int32) (p1 : Int32) : Option (Int32 × Int32) :=
if p1 < 0 then
some (0, m_tlen)
else
if p1 ≤ m_tlen then
some (1, p1)
else
some (0, m_tlen)
def f_X11_fault (m_fkind : Int32) : Option (Int32) :=
some m_fkind
def f_X11_hear (m_heard : Int32) (m_wayKnown : Int32) (m_qKnown : Int32) (m_lineKnown : Int32) (p1 : Int32) : Option (Int32 × Int32 × Int32 × Int32 × Int32) :=
if p1 < 0 then
some (0, m_heard, m_wayKnown, m_qKnown, m_lineKnown)
else
if p1 ≤ 63 then
(f_X1_forget m_wayKnown m_qKnown m_lineKnown).bind (fun q4 =>
some (1, p1, q4.1, q4.2.1, q4.2.2))
else
some (0, m_heard, m_wayKnown, m_qKnown, m_lineKnown)
def f_X11_happening (m_tlen : Int32) (a_bytes : Nat → Int32) (m_drafted : Int32) (a_letters : Nat → Int32) (a_nlen : Nat → Int32) : Option (Int32 × Int32) :=
(f_X7_firstSolid m_tlen a_bytes).bind (fun q4 =>
(f_X7_afterSolid m_tlen a_bytes q4).bind (fun q5 =>
(f_X3_find a_bytes m_drafted a_letters a_nlen q4 (q5 - q4)).bind (fun q6 =>
some (q6, 0))))
def f_X11_name (m_out : Int32) (m_nsize : Int32) (a_nlen : Nat → Int32) (p1 : Int32) : Option (Int32 × Int32) :=
(f_X3_has m_nsize p1).bind (fun q3 =>
if q3 = 0 then
some ((-1), m_out)
else
gIn p1 20 (
some (a_nlen (Int32.toNatClampNeg p1), p1)))
def f_X11_agree (m_nsize : Int32) (t_texts : Nat → Nat) (m_heard : Int32) (m_wayKnown : Int32) (m_way : Int32) (m_nodes : Int32) (m_lsize : Int32) (a_tails : Nat → Int32) (a_heads : Nat → Int32) (a_gaps : Nat → Int32) (a_least : Nat → Int32) (a_leftOut : Nat → Int32) (a_tsize : Nat → Int32) (t_word : Nat → Nat) (a_own : Nat → Int32) (a_oth : Nat → Int32) (a_fst : Nat → Int32) (a_snd : Nat → Int32) : Option (Int32 × Int32 × Int32 × Int32 × Int32 × (Nat → Int32) × (Nat → Int32) × (Nat → Int32) × (Nat → Int32)) :=
(f_X1_hasWay m_nsize t_texts m_heard m_wayKnown m_way m_nodes m_lsize a_tails a_heads a_gaps a_least a_leftOut a_tsize t_word a_own a_oth a_fst a_snd).bind (fun q2 =>
if q2.1 = 0 then
some (0, q2.2.1, q2.2.2.1, q2.2.2.2.1, q2.2.2.2.2.1, q2.2.2.2.2.2.1, q2.2.2.2.2.2.2.1, q2.2.2.2.2.2.2.2.1, q2.2.2.2.2.2.2.2.2)
else
some (1, q2.2.1, q2.2.2.1, q2.2.2.2.1, q2.2.2.2.2.1, q2.2.2.2.2.2.1, q2.2.2.2.2.2.2.1, q2.2.2.2.2.2.2.2.1, q2.2.2.2.2.2.2.2.2))
def f_X11_bound (m_nsize : Int32) (t_texts : Nat → Nat) (m_heard : Int32) (m_wayKnown : Int32) (m_way : Int32) (m_nodes : Int32) (m_lsize : Int32) (a_tails : Nat → Int32) (a_heads : Nat → Int32) (a_gaps : Nat → Int32) (a_least : Nat → Int32) (a_leftOut : Nat → Int32) (a_tsize : Nat → Int32) (t_word : Nat → Nat) (a_own : Nat → Int32) (a_oth : Nat → Int32) (a_fst : Nat → Int32) (a_snd : Nat → Int32) (p1 : Int32) (p2 : Int32) : Option (Int32 × Int32 × Int32 × Int32 × Int32 × (Nat → Int32) × (Nat → Int32) × (Nat → Int32) × (Nat → Int32)) :=
(f_X3_has m_nsize p1).bind (fun q11 =>
if q11 = 0 then
some ((-1), m_wayKnown, m_way, m_nodes, m_lsize, a_tails, a_heads, a_gaps, a_least)
else
(f_X1_hasWay m_nsize t_texts m_heard m_wayKnown m_way m_nodes m_lsize a_tails a_heads a_gaps a_least a_leftOut a_tsize t_word a_own a_oth a_fst a_snd).bind (fun q13 =>
if q13.1 = 0 then
some ((-1), q13.2.1, q13.2.2.1, q13.2.2.2.1, q13.2.2.2.2.1, q13.2.2.2.2.2.1, q13.2.2.2.2.2.2.1, q13.2.2.2.2.2.2.2.1, q13.2.2.2.2.2.2.2.2)
else
if p2 = 0 then
(f_X4_firstOf p1).bind (fun q16 =>
(f_X1_least m_nsize t_texts m_heard q13.2.2.2.1 q13.2.2.2.2.1 q13.2.2.2.2.2.1 q13.2.2.2.2.2.2.1 q13.2.2.2.2.2.2.2.1 q13.2.2.2.2.2.2.2.2 a_leftOut a_tsize t_word a_own a_oth a_fst a_snd 0 q16).bind (fun q17 =>
some (q17.1, q13.2.1, q13.2.2.1, q17.2.1, q17.2.2.1, q17.2.2.2.1, q17.2.2.2.2.1, q17.2.2.2.2.2.1, q17.2.2.2.2.2.2)))
else
if p2 = 1 then
(f_X4_firstOf p1).bind (fun q19 =>
(f_X1_greatest m_nsize t_texts m_heard q13.2.2.2.1 q13.2.2.2.2.1 q13.2.2.2.2.2.1 q13.2.2.2.2.2.2.1 q13.2.2.2.2.2.2.2.1 q13.2.2.2.2.2.2.2.2 a_leftOut a_tsize t_word a_own a_oth a_fst a_snd 0 q19).bind (fun q20 =>
some (q20.1, q13.2.1, q13.2.2.1, q20.2.1, q20.2.2.1, q20.2.2.2.1, q20.2.2.2.2.1, q20.2.2.2.2.2.1, q20.2.2.2.2.2.2)))
else
if p2 = 2 then
(f_X4_lastOf p1).bind (fun q22 =>
(f_X1_least m_nsize t_texts m_heard q13.2.2.2.1 q13.2.2.2.2.1 q13.2.2.2.2.2.1 q13.2.2.2.2.2.2.1 q13.2.2.2.2.2.2.2.1 q13.2.2.2.2.2.2.2.2 a_leftOut a_tsize t_word a_own a_oth a_fst a_snd 0 q22).bind (fun q23 =>
some (q23.1, q13.2.1, q13.2.2.1, q23.2.1, q23.2.2.1, q23.2.2.2.1, q23.2.2.2.2.1, q23.2.2.2.2.2.1, q23.2.2.2.2.2.2)))
else
if p2 = 3 then
(f_X4_lastOf p1).bind (fun q25 =>
(f_X1_greatest m_nsize t_texts m_heard q13.2.2.2.1 q13.2.2.2.2.1 q13.2.2.2.2.2.1 q13.2.2.2.2.2.2.1 q13.2.2.2.2.2.2.2.1 q13.2.2.2.2.2.2.2.2 a_leftOut a_tsize t_word a_own a_oth a_fst a_snd 0 q25).bind (fun q26 =>
some (q26.1, q13.2.1, q13.2.2.1, q26.2.1, q26.2.2.1, q26.2.2.2.1, q26.2.2.2.2.1, q26.2.2.2.2.2.1, q26.2.2.2.2.2.2)))
else
some ((-1), q13.2.1, q13.2.2.1, q13.2.2.2.1, q13.2.2.2.2.1, q13.2.2.2.2.2.1, q13.2.2.2.2.2.2.1, q13.2.2.2.2.2.2.2.1, q13.2.2.2.2.2.2.2.2)))
def f_X11_order_b32 (m_nsize : Int32) (t_texts : Nat → Nat) (m_heard : Int32) (m_wayKnown : Int32) (m_way : Int32) (m_nodes : Int32) (m_lsize : Int32) (a_tails : Nat → Int32) (a_heads : Nat → Int32) (a_gaps : Nat → Int32) (a_least : Nat → Int32) (a_leftOut : Nat → Int32) (a_tsize : Nat → Int32) (t_word : Nat → Nat) (a_own : Nat → Int32) (a_oth : Nat → Int32) (a_fst : Nat → Int32) (a_snd : Nat → Int32) : Option (Int32 × Int32 × Int32 × Int32 × Int32 × (Nat → Int32) × (Nat → Int32) × (Nat → Int32) × (Nat → Int32)) :=
some ((-2), m_wayKnown, m_way, m_nodes, m_lsize, a_tails, a_heads, a_gaps, a_least)
def f_X11_order (m_nsize : Int32) (t_texts : Nat → Nat) (m_heard : Int32) (m_wayKnown : Int32) (m_way : Int32) (m_nodes : Int32) (m_lsize : Int32) (a_tails : Nat → Int32) (a_heads : Nat → Int32) (a_gaps : Nat → Int32) (a_least : Nat → Int32) (a_leftOut : Nat → Int32) (a_tsize : Nat → Int32) (t_word : Nat → Nat) (a_own : Nat → Int32) (a_oth : Nat → Int32) (a_fst : Nat → Int32) (a_snd : Nat → Int32) (p1 : Int32) (p2 : Int32) : Option (Int32 × Int32 × Int32 × Int32 × Int32 × (Nat → Int32) × (Nat → Int32) × (Nat → Int32) × (Nat → Int32)) :=
(f_X3_has m_nsize p1).bind (fun q10 =>
if q10 = 0 then
f_X11_order_b32 m_nsize t_texts m_heard m_wayKnown m_way m_nodes m_lsize a_tails a_heads a_gaps a_least a_leftOut a_tsize t_word a_own a_oth a_fst a_snd
else
(f_X3_has m_nsize p2).bind (fun q12 =>
if q12 = 0 then
f_X11_order_b32 m_nsize t_texts m_heard m_wayKnown m_way m_nodes m_lsize a_tails a_heads a_gaps a_least a_leftOut a_tsize t_word a_own a_oth a_fst a_snd
else
(f_X1_hasWay m_nsize t_texts m_heard m_wayKnown m_way m_nodes m_lsize a_tails a_heads a_gaps a_least a_leftOut a_tsize t_word a_own a_oth a_fst a_snd).bind (fun q14 =>
if q14.1 = 0 then
f_X11_order_b32 m_nsize t_texts m_heard q14.2.1 q14.2.2.1 q14.2.2.2.1 q14.2.2.2.2.1 q14.2.2.2.2.2.1 q14.2.2.2.2.2.2.1 q14.2.2.2.2.2.2.2.1 q14.2.2.2.2.2.2.2.2 a_leftOut a_tsize t_word a_own a_oth a_fst a_snd
else
(f_X4_lastOf p1).bind (fun q16 =>
(f_X4_firstOf p2).bind (fun q17 =>
(f_X1_least m_nsize t_texts m_heard q14.2.2.2.1 q14.2.2.2.2.1 q14.2.2.2.2.2.1 q14.2.2.2.2.2.2.1 q14.2.2.2.2.2.2.2.1 q14.2.2.2.2.2.2.2.2 a_leftOut a_tsize t_word a_own a_oth a_fst a_snd q16 q17).bind (fun q18 =>
if q18.1 ≤ 0 then
(f_X4_lastOf p1).bind (fun q20 =>
(f_X4_firstOf p2).bind (fun q21 =>
(f_X1_greatest m_nsize t_texts m_heard q18.2.1 q18.2.2.1 q18.2.2.2.1 q18.2.2.2.2.1 q18.2.2.2.2.2.1 q18.2.2.2.2.2.2 a_leftOut a_tsize t_word a_own a_oth a_fst a_snd q20 q21).bind (fun q22 =>
if 0 < q22.1 then
some (0, q14.2.1, q14.2.2.1, q22.2.1, q22.2.2.1, q22.2.2.2.1, q22.2.2.2.2.1, q22.2.2.2.2.2.1, q22.2.2.2.2.2.2)
else
some ((-1), q14.2.1, q14.2.2.1, q22.2.1, q22.2.2.1, q22.2.2.2.1, q22.2.2.2.2.1, q22.2.2.2.2.2.1, q22.2.2.2.2.2.2))))
else
some (1, q14.2.1, q14.2.2.1, q18.2.1, q18.2.2.1, q18.2.2.2.1, q18.2.2.2.2.1, q18.2.2.2.2.2.1, q18.2.2.2.2.2.2)))))))
def f_X11_quarrel (m_nsize : Int32) (t_texts : Nat → Nat) (m_heard : Int32) (m_qsize : Int32) (m_wayKnown : Int32) (m_way : Int32) (m_qKnown : Int32) (m_nodes : Int32) (m_lsize : Int32) (a_tails : Nat → Int32) (a_heads : Nat → Int32) (a_gaps : Nat → Int32) (a_least : Nat → Int32) (a_leftOut : Nat → Int32) (a_qrow : Nat → Int32) (a_tsize : Nat → Int32) (t_word : Nat → Nat) (a_own : Nat → Int32) (a_oth : Nat → Int32) (a_fst : Nat → Int32) (a_snd : Nat → Int32) : Option (Int32 × Int32 × Int32 × Int32 × Int32 × Int32 × Int32 × (Nat → Int32) × (Nat → Int32) × (Nat → Int32) × (Nat → Int32) × (Nat → Int32) × (Nat → Int32)) :=
(f_X1_hasWay m_nsize t_texts m_heard m_wayKnown m_way m_nodes m_lsize a_tails a_heads a_gaps a_least a_leftOut a_tsize t_word a_own a_oth a_fst a_snd).bind (fun q3 =>
if q3.1 = 0 then
(f_X1_findQuarrel m_nsize t_texts m_heard m_qsize m_qKnown q3.2.2.2.1 q3.2.2.2.2.1 q3.2.2.2.2.2.1 q3.2.2.2.2.2.2.1 q3.2.2.2.2.2.2.2.1 q3.2.2.2.2.2.2.2.2 a_leftOut a_qrow a_tsize t_word a_own a_oth a_fst a_snd).bind (fun q5 =>
some (q5.1, q5.1, q3.2.1, q3.2.2.1, q5.2.1, q5.2.2.1, q5.2.2.2.1, q5.2.2.2.2.1, q5.2.2.2.2.2.1, q5.2.2.2.2.2.2.1, q5.2.2.2.2.2.2.2.1, q5.2.2.2.2.2.2.2.2.1, q5.2.2.2.2.2.2.2.2.2))
else
some (0, m_qsize, q3.2.1, q3.2.2.1, m_qKnown, q3.2.2.2.1, q3.2.2.2.2.1, q3.2.2.2.2.2.1, q3.2.2.2.2.2.2.1, q3.2.2.2.2.2.2.2.1, q3.2.2.2.2.2.2.2.2, a_leftOut, a_qrow))
def f_X11_quarrelled (m_nsize : Int32) (t_texts : Nat → Nat) (m_heard : Int32) (m_qsize : Int32) (m_wayKnown : Int32) (m_way : Int32) (m_qKnown : Int32) (m_nodes : Int32) (m_lsize : Int32) (a_tails : Nat → Int32) (a_heads : Nat → Int32) (a_gaps : Nat → Int32) (a_least : Nat → Int32) (a_leftOut : Nat → Int32) (a_qrow : Nat → Int32) (a_tsize : Nat → Int32) (t_word : Nat → Nat) (a_own : Nat → Int32) (a_oth : Nat → Int32) (a_fst : Nat → Int32) (a_snd : Nat → Int32) (p1 : Int32) : Option (Int32 × Int32 × Int32 × Int32 × Int32 × Int32 × Int32 × (Nat → Int32) × (Nat → Int32) × (Nat → Int32) × (Nat → Int32) × (Nat → Int32) × (Nat → Int32)) :=
(f_X1_hasWay m_nsize t_texts m_heard m_wayKnown m_way m_nodes m_lsize a_tails a_heads a_gaps a_least a_leftOut a_tsize t_word a_own a_oth a_fst a_snd).bind (fun q4 =>
if q4.1 = 0 then
(f_X1_findQuarrel m_nsize t_texts m_heard m_qsize m_qKnown q4.2.2.2.1 q4.2.2.2.2.1 q4.2.2.2.2.2.1 q4.2.2.2.2.2.2.1 q4.2.2.2.2.2.2.2.1 q4.2.2.2.2.2.2.2.2 a_leftOut a_qrow a_tsize t_word a_own a_oth a_fst a_snd).bind (fun q6 =>
if p1 < 0 then
some ((-1), q6.1, q4.2.1, q4.2.2.1, q6.2.1, q6.2.2.1, q6.2.2.2.1, q6.2.2.2.2.1, q6.2.2.2.2.2.1, q6.2.2.2.2.2.2.1, q6.2.2.2.2.2.2.2.1, q6.2.2.2.2.2.2.2.2.1, q6.2.2.2.2.2.2.2.2.2)
else
if q6.1 ≤ p1 then
some ((-1), q6.1, q4.2.1, q4.2.2.1, q6.2.1, q6.2.2.1, q6.2.2.2.1, q6.2.2.2.2.1, q6.2.2.2.2.2.1, q6.2.2.2.2.2.2.1, q6.2.2.2.2.2.2.2.1, q6.2.2.2.2.2.2.2.2.1, q6.2.2.2.2.2.2.2.2.2)
else
gIn p1 72 (
some (q6.2.2.2.2.2.2.2.2.2 (Int32.toNatClampNeg p1), q6.1, q4.2.1, q4.2.2.1, q6.2.1, q6.2.2.1, q6.2.2.2.1, q6.2.2.2.2.1, q6.2.2.2.2.2.1, q6.2.2.2.2.2.2.1, q6.2.2.2.2.2.2.2.1, q6.2.2.2.2.2.2.2.2.1, q6.2.2.2.2.2.2.2.2.2)))
else
some ((-1), m_qsize, q4.2.1, q4.2.2.1, m_qKnown, q4.2.2.2.1, q4.2.2.2.2.1, q4.2.2.2.2.2.1, q4.2.2.2.2.2.2.1, q4.2.2.2.2.2.2.2.1, q4.2.2.2.2.2.2.2.2, a_leftOut, a_qrow))
def f_X11_leave (m_nsize : Int32) (t_texts : Nat → Nat) (m_heard : Int32) (m_wayKnown : Int32) (m_way : Int32) (m_nodes : Int32) (m_lsize : Int32) (a_tails : Nat → Int32) (a_heads : Nat → Int32) (a_gaps : Nat → Int32) (a_least : Nat → Int32) (a_leftOut : Nat → Int32) (a_tsize : Nat → Int32) (t_word : Nat → Nat) (a_own : Nat → Int32) (a_oth : Nat → Int32) (a_fst : Nat → Int32) (a_snd : Nat → Int32) : Option (Int32 × Int32 × Int32 × Int32 × Int32 × (Nat → Int32) × (Nat → Int32) × (Nat → Int32) × (Nat → Int32)) :=
(f_X1_fewestToLeave m_nsize t_texts m_heard m_wayKnown m_way m_nodes m_lsize a_tails a_heads a_gaps a_least a_leftOut a_tsize t_word a_own a_oth a_fst a_snd).bind (fun q2 =>
some (q2.1, q2.2.1, q2.2.2.1, q2.2.2.2.1, q2.2.2.2.2.1, q2.2.2.2.2.2.1, q2.2.2.2.2.2.2.1, q2.2.2.2.2.2.2.2.1, q2.2.2.2.2.2.2.2.2))
def f_X11_at (m_nsize : Int32) (t_texts : Nat → Nat) (m_heard : Int32) (m_wayKnown : Int32) (m_way : Int32) (m_lineKnown : Int32) (m_nodes : Int32) (m_lsize : Int32) (a_tails : Nat → Int32) (a_heads : Nat → Int32) (a_gaps : Nat → Int32) (a_least : Nat → Int32) (a_leftOut : Nat → Int32) (a_line : Nat → Int32) (a_tsize : Nat → Int32) (t_word : Nat → Nat) (a_own : Nat → Int32) (a_oth : Nat → Int32) (a_fst : Nat → Int32) (a_snd : Nat → Int32) (p1 : Int32) : Option (Int32 × Int32 × Int32 × Int32 × Int32 × Int32 × (Nat → Int32) × (Nat → Int32) × (Nat → Int32) × (Nat → Int32) × (Nat → Int32)) :=
(f_X3_has m_nsize p1).bind (fun q5 =>
if q5 = 0 then
some ((-1), m_wayKnown, m_way, m_lineKnown, m_nodes, m_lsize, a_tails, a_heads, a_gaps, a_least, a_line)
else
(f_X1_hasWay m_nsize t_texts m_heard m_wayKnown m_way m_nodes m_lsize a_tails a_heads a_gaps a_least a_leftOut a_tsize t_word a_own a_oth a_fst a_snd).bind (fun q7 =>
if q7.1 = 0 then
some ((-1), q7.2.1, q7.2.2.1, m_lineKnown, q7.2.2.2.1, q7.2.2.2.2.1, q7.2.2.2.2.2.1, q7.2.2.2.2.2.2.1, q7.2.2.2.2.2.2.2.1, q7.2.2.2.2.2.2.2.2, a_line)
else
(f_X1_findLine m_nsize t_texts m_heard m_lineKnown q7.2.2.2.1 q7.2.2.2.2.1 q7.2.2.2.2.2.1 q7.2.2.2.2.2.2.1 q7.2.2.2.2.2.2.2.1 q7.2.2.2.2.2.2.2.2 a_leftOut a_line a_tsize t_word a_own a_oth a_fst a_snd).bind (fun q9 =>
gIn p1 20 (
some (q9.2.2.2.2.2.2.2 (Int32.toNatClampNeg p1), q7.2.1, q7.2.2.1, q9.1, q9.2.1, q9.2.2.1, q9.2.2.2.1, q9.2.2.2.2.1, q9.2.2.2.2.2.1, q9.2.2.2.2.2.2.1, q9.2.2.2.2.2.2.2)))))
def f_X11_outLength (m_out : Int32) (m_nsize : Int32) (a_nlen : Nat → Int32) : Option (Int32) :=
(f_X3_has m_nsize m_out).bind (fun q3 =>
if q3 = 0 then
some 0
else
gIn m_out 20 (
some (a_nlen (Int32.toNatClampNeg m_out))))
def f_X11_sayingsOfAll_l4 (t_texts : Nat → Nat) (a_tsize : Nat → Int32) (sg : Int32 × Int32) : Option ((Int32 × Int32) ⊕ (Int32 × Int32)) :=
if 6 ≤ sg.2 then
some (.inr (sg.1, sg.2))
else
gIn sg.2 6 (
gN (t_texts (Int32.toNatClampNeg sg.2)) 7 (
some (.inl (sg.1 + (a_tsize (t_texts (Int32.toNatClampNeg sg.2))), sg.2 + 1))))
def f_X11_sayingsOfAll (t_texts : Nat → Nat) (a_tsize : Nat → Int32) : Option (Int32) :=
(lp (f_X11_sayingsOfAll_l4 t_texts a_tsize) gFU (0, 0)).bind (fun q6 =>
some q6.1)
def f_X11_count (m_out : Int32) (m_tlen : Int32) (m_nsize : Int32) (a_nlen : Nat → Int32) (t_texts : Nat → Nat) (m_heard : Int32) (a_tsize : Nat → Int32) (p1 : Int32) : Option (Int32) :=
if p1 = 0 then
some m_nsize
else
if p1 = 1 then
(f_X11_sayingsOfAll t_texts a_tsize).bind (fun q5 =>
some q5)
else
if p1 = 2 then
some m_heard
else
if p1 = 3 then
some m_tlen
else
if p1 = 4 then
(f_X11_outLength m_out m_nsize a_nlen).bind (fun q9 =>
some q9)
else
some (-1)
def f_X11_isTeller (p0 : Int32) : Option (Int32) :=
if p0 < 0 then
some 0
else
if 6 ≤ p0 then
some 0
else
some 1
