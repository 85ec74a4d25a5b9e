/-! names of the law's six wrappers -/
def RL : String := "CaseOrderLaw"
abbrev cL_tell : ByteArray := method_3_code
def yL_tell : MethodName := ⟨RL, "tell", "(LCaseOrder;I[J)I"⟩
abbrev cL_saying : ByteArray := method_4_code
def yL_saying : MethodName := ⟨RL, "saying", "(LCaseOrder;III[J)I"⟩
abbrev cL_octet : ByteArray := method_5_code
def yL_octet : MethodName := ⟨RL, "octet", "(LCaseOrder;I[J)I"⟩
abbrev cL_between : ByteArray := method_6_code
def yL_between : MethodName := ⟨RL, "between", "(LCaseOrder;IIZ[J)I"⟩
abbrev cL_needless : ByteArray := method_7_code
def yL_needless : MethodName := ⟨RL, "needless", "(LCaseOrder;II[J)I"⟩
abbrev cL_sayings : ByteArray := method_8_code
def yL_sayings : MethodName := ⟨RL, "sayings", "(LCaseOrder;I[J)I"⟩
def wsL_tell_r1 : List Cond := [Cond.classLink RL 13 "java/lang/IndexOutOfBoundsException", Cond.methodLink RL 7 yX11_tell, Cond.instanceMethod yX11_tell, Cond.selects RX11 yX11_tell yX11_tell, Cond.initialized RX11, Cond.code yX11_tell cX11_tell 4 (some .int), Cond.classLink RX11 67 "java/lang/IndexOutOfBoundsException", Cond.initialized "java/lang/IndexOutOfBoundsException", Cond.fieldLink RX11 39 "CaseOrder" "reader" "LCaseOrder$Reader;", Cond.fieldLink RX11 30 "CaseOrder" "draft" "LCaseOrder$Text;", Cond.fieldLink RX11 10 "CaseOrder" "tape" "LCaseOrder$Tape;", Cond.fieldLink RX11 56 "CaseOrder$Tape" "length" "I", Cond.fieldLink RX11 78 "CaseOrder$Reader" "faultPlace" "I", Cond.fieldLink RX11 25 "CaseOrder" "texts" "[LCaseOrder$Text;", Cond.fieldLink RX11 48 "CaseOrder" "hearing" "LCaseOrder$Hearing;", Cond.fieldLink RX11 84 "CaseOrder$Text" "size" "I", Cond.methodLink RX11 63 yX11_isTeller, Cond.static yX11_isTeller, Cond.code yX11_isTeller cX11_isTeller 1 (some .boolean), Cond.methodLink RX11 74 yX5_read, Cond.instanceMethod yX5_read, Cond.selects RX5 yX5_read yX5_read, Cond.initialized RX5, Cond.code yX5_read cX5_read 3 (some .boolean)]
def wsL_tell_r2 : List Cond := [Cond.fieldLink RX5 12 "CaseOrder$Reader" "tokens" "LCaseOrder$Tokens;", Cond.fieldLink RX5 28 "CaseOrder$Reader" "tape" "LCaseOrder$Tape;", Cond.fieldLink RX5 18 "CaseOrder$Reader" "here" "I", Cond.fieldLink RX5 22 "CaseOrder$Reader" "faultKind" "I", Cond.fieldLink RX5 40 "CaseOrder$Text" "size" "I", Cond.fieldLink RX5 45 "CaseOrder$Token" "END" "LCaseOrder$Token;", Cond.fieldLink RX5 59 "CaseOrder$Text" "row" "[LCaseOrder$Saying;", Cond.fieldLink RX5 67 "CaseOrder$Tape" "length" "I", Cond.fieldLink RX5 32 "CaseOrder$Reader" "names" "LCaseOrder$Names;", Cond.methodLink RX5 36 yX10_cut, Cond.instanceMethod yX10_cut, Cond.selects RX10 yX10_cut yX10_cut, Cond.initialized RX10, Cond.code yX10_cut cX10_cut 5 none, Cond.fieldLink RX10 32 "CaseOrder$Tape" "length" "I", Cond.methodLink RX10 37 Lib.Math.min.name, Cond.static Lib.Math.min.name, Cond.initialized "java/lang/Math", Cond.code Lib.Math.min.name Lib.Math.min.code 2 (some .int), Cond.fieldLink RX10 24 "CaseOrder$Tokens" "size" "I", Cond.fieldLink RX10 28 "CaseOrder$Token" "END" "LCaseOrder$Token;", Cond.methodLink RX10 43 yX7_isBlank, Cond.instanceMethod yX7_isBlank, Cond.selects RX7 yX7_isBlank yX7_isBlank]
def wsL_tell_r3 : List Cond := [Cond.initialized RX7, Cond.code yX7_isBlank cX7_isBlank 2 (some .boolean), Cond.fieldLink RX7 9 "CaseOrder$Tape" "bytes" "[B", Cond.methodLink RX10 47 yX10_lengthAt, Cond.static yX10_lengthAt, Cond.code yX10_lengthAt cX10_lengthAt 4 (some .int), Cond.methodLink RX10 65 Lib.Math.max.name, Cond.static Lib.Math.max.name, Cond.code Lib.Math.max.name Lib.Math.max.code 2 (some .int), Cond.methodLink RX10 59 yX7_isLetter, Cond.instanceMethod yX7_isLetter, Cond.selects RX7 yX7_isLetter yX7_isLetter, Cond.code yX7_isLetter cX7_isLetter 2 (some .boolean), Cond.methodLink RX10 62 yX7_isDigit, Cond.instanceMethod yX7_isDigit, Cond.selects RX7 yX7_isDigit yX7_isDigit, Cond.code yX7_isDigit cX7_isDigit 2 (some .boolean), Cond.methodLink RX10 51 yX10_typeAt, Cond.static yX10_typeAt, Cond.code yX10_typeAt cX10_typeAt 6 (some (.object "CaseOrder$Token")), Cond.fieldLink RX10 68 "CaseOrder$Tape" "bytes" "[B", Cond.fieldLink RX10 72 "CaseOrder$Token" "STOP" "LCaseOrder$Token;", Cond.fieldLink RX10 75 "CaseOrder$Token" "NUMBER" "LCaseOrder$Token;", Cond.fieldLink RX10 81 "CaseOrder$Token" "NO_TOKEN" "LCaseOrder$Token;"]
def wsL_tell_r4 : List Cond := [Cond.methodLink RX10 78 yX10_wordAt, Cond.static yX10_wordAt, Cond.code yX10_wordAt cX10_wordAt 4 (some (.object "CaseOrder$Token")), Cond.fieldLink RX10 87 "CaseOrder$Token" "spelling" "Ljava/lang/String;", Cond.fieldLink RX10 95 "CaseOrder$Token" "NAME" "LCaseOrder$Token;", Cond.methodLink RX10 91 yX10_isSpelled, Cond.static yX10_isSpelled, Cond.code yX10_isSpelled cX10_isSpelled 5 (some .boolean), Cond.methodLink RX10 98 yJ0_length_8abf5, Cond.instanceMethod yJ0_length_8abf5, Cond.selects RJ0 yJ0_length_8abf5 yJ0_length_8abf5, Cond.initialized RJ0, Cond.code yJ0_length_8abf5 cJ0_length_8abf5 1 (some .int), Cond.fieldLink RJ0 9 "java/lang/String" "value" "[B", Cond.methodLink RJ0 335 yJ0_coder_7d493, Cond.instanceMethod yJ0_coder_7d493, Cond.selects RJ0 yJ0_coder_7d493 yJ0_coder_7d493, Cond.code yJ0_coder_7d493 cJ0_coder_7d493 1 (some .byte), Cond.fieldLink RJ0 38 "java/lang/String" "COMPACT_STRINGS" "Z", Cond.fieldLink RJ0 15 "java/lang/String" "coder" "B", Cond.methodLink RX10 103 yJ0_charAt_5068e, Cond.instanceMethod yJ0_charAt_5068e, Cond.selects RJ0 yJ0_charAt_5068e yJ0_charAt_5068e, Cond.code yJ0_charAt_5068e cJ0_charAt_5068e 2 (some .char)]
def wsL_tell_r5 : List Cond := [Cond.methodLink RJ0 492 yJ0_isLatin1_aae02, Cond.instanceMethod yJ0_isLatin1_aae02, Cond.selects RJ0 yJ0_isLatin1_aae02 yJ0_isLatin1_aae02, Cond.code yJ0_isLatin1_aae02 cJ0_isLatin1_aae02 1 (some .boolean), Cond.methodLink RJ0 495 yJ1_charAt_3b067, Cond.static yJ1_charAt_3b067, Cond.initialized RJ1, Cond.code yJ1_charAt_3b067 cJ1_charAt_3b067 2 (some .char), Cond.methodLink RJ1 9 yJ0_checkIndex_df160, Cond.static yJ0_checkIndex_df160, Cond.code yJ0_checkIndex_df160 cJ0_checkIndex_df160 2 none, Cond.fieldLink RJ0 1053 "jdk/internal/util/Preconditions" "SIOOBE_FORMATTER" "Ljava/util/function/BiFunction;", Cond.methodLink RJ0 1059 yJ3_checkIndex_8e157, Cond.static yJ3_checkIndex_8e157, Cond.initialized RJ3, Cond.code yJ3_checkIndex_8e157 cJ3_checkIndex_8e157 3 (some .int), Cond.methodLink RJ0 498 yJ2_charAt_3b067, Cond.static yJ2_charAt_3b067, Cond.initialized RJ2, Cond.code yJ2_charAt_3b067 cJ2_charAt_3b067 2 (some .char), Cond.methodLink RJ2 67 yJ2_checkIndex_2214a, Cond.static yJ2_checkIndex_2214a, Cond.code yJ2_checkIndex_2214a cJ2_checkIndex_2214a 2 none, Cond.methodLink RJ2 48 yJ2_length_9d52b]
def wsL_tell_r6 : List Cond := [Cond.static yJ2_length_9d52b, Cond.code yJ2_length_9d52b cJ2_length_9d52b 1 (some .int), Cond.methodLink RJ2 414 yJ0_checkIndex_df160, Cond.methodLink RJ2 71 yJ2_getChar_3b067, Cond.static yJ2_getChar_3b067, Cond.code yJ2_getChar_3b067 cJ2_getChar_3b067 2 (some .char), Cond.fieldLink RJ2 44 "java/lang/StringUTF16" "$assertionsDisabled" "Z", Cond.fieldLink RJ2 59 "java/lang/StringUTF16" "HI_BYTE_SHIFT" "I", Cond.fieldLink RJ2 63 "java/lang/StringUTF16" "LO_BYTE_SHIFT" "I", Cond.methodLink RX10 55 yX10_put, Cond.instanceMethod yX10_put, Cond.selects RX10 yX10_put yX10_put, Cond.code yX10_put cX10_put 4 none, Cond.fieldLink RX10 11 "CaseOrder$Tokens" "types" "[LCaseOrder$Token;", Cond.fieldLink RX10 17 "CaseOrder$Tokens" "starts" "[I", Cond.fieldLink RX10 21 "CaseOrder$Tokens" "lengths" "[I", Cond.methodLink RX5 51 yX5_is, Cond.instanceMethod yX5_is, Cond.selects RX5 yX5_is yX5_is, Cond.code yX5_is cX5_is 2 (some .boolean), Cond.methodLink RX5 55 yX5_readBeginning, Cond.instanceMethod yX5_readBeginning, Cond.selects RX5 yX5_readBeginning yX5_readBeginning, Cond.code yX5_readBeginning cX5_readBeginning 4 (some .boolean)]
def wsL_tell_r7 : List Cond := [Cond.fieldLink RX5 90 "CaseOrder$Token" "NAME" "LCaseOrder$Token;", Cond.methodLink RX5 72 yX5_refuse, Cond.instanceMethod yX5_refuse, Cond.selects RX5 yX5_refuse yX5_refuse, Cond.code yX5_refuse cX5_refuse 2 (some .boolean), Cond.fieldLink RX5 25 "CaseOrder$Reader" "faultPlace" "I", Cond.methodLink RX5 96 yX3_findOrDraft, Cond.instanceMethod yX3_findOrDraft, Cond.selects RX3 yX3_findOrDraft yX3_findOrDraft, Cond.initialized RX3, Cond.code yX3_findOrDraft cX3_findOrDraft 6 (some .int), Cond.fieldLink RX3 23 "CaseOrder$Names" "drafted" "I", Cond.fieldLink RX3 9 "CaseOrder$Names" "letters" "[B", Cond.fieldLink RX3 30 "CaseOrder$Tape" "bytes" "[B", Cond.fieldLink RX3 15 "CaseOrder$Names" "lengths" "[I", Cond.methodLink RX3 35 yX3_find, Cond.instanceMethod yX3_find, Cond.selects RX3 yX3_find yX3_find, Cond.code yX3_find cX3_find 5 (some .int), Cond.methodLink RX3 26 yX3_isSpelled, Cond.instanceMethod yX3_isSpelled, Cond.selects RX3 yX3_isSpelled yX3_isSpelled, Cond.code yX3_isSpelled cX3_isSpelled 5 (some .boolean), Cond.methodLink RX5 100 yX6_begin]
def wsL_tell_r8 : List Cond := [Cond.instanceMethod yX6_begin, Cond.selects RX6 yX6_begin yX6_begin, Cond.initialized RX6, Cond.code yX6_begin cX6_begin 3 none, Cond.fieldLink RX6 33 "CaseOrder$Saying" "place" "I", Cond.fieldLink RX6 20 "CaseOrder$Saying" "own" "I", Cond.fieldLink RX6 24 "CaseOrder$Saying" "other" "I", Cond.fieldLink RX6 27 "CaseOrder$Saying" "first" "I", Cond.fieldLink RX6 30 "CaseOrder$Saying" "second" "I", Cond.methodLink RX5 106 yX5_pass, Cond.instanceMethod yX5_pass, Cond.selects RX5 yX5_pass yX5_pass, Cond.code yX5_pass cX5_pass 1 (some .boolean), Cond.methodLink RX5 63 yX5_readRest, Cond.instanceMethod yX5_readRest, Cond.selects RX5 yX5_readRest yX5_readRest, Cond.code yX5_readRest cX5_readRest 2 (some .boolean), Cond.fieldLink RX5 110 "CaseOrder$Saying" "word" "LCaseOrder$Token;", Cond.fieldLink RX5 113 "CaseOrder$Token" "kind" "I", Cond.fieldLink RX5 116 "CaseOrder$1" "$SwitchMap$CaseOrder$Token" "[I", Cond.methodLink RX5 121 ⟨"CaseOrder$Token", "ordinal", "()I"⟩, Cond.sameMethod "CaseOrder$Token" "java/lang/Enum" "ordinal" "()I", Cond.selects RX9 ⟨"CaseOrder$Token", "ordinal", "()I"⟩ yJx29ce0_ordinal_8abf5, Cond.instanceMethod yJx29ce0_ordinal_8abf5]
def wsL_tell_r9 : List Cond := [Cond.initialized RJx29ce0, Cond.code yJx29ce0_ordinal_8abf5 cJx29ce0_ordinal_8abf5 1 (some .int), Cond.fieldLink RJx29ce0 7 "java/lang/Enum" "ordinal" "I", Cond.methodLink RX5 125 yX5_readFirst, Cond.instanceMethod yX5_readFirst, Cond.selects RX5 yX5_readFirst yX5_readFirst, Cond.code yX5_readFirst cX5_readFirst 3 (some .boolean), Cond.fieldLink RX5 157 "CaseOrder$Saying" "first" "I", Cond.methodLink RX5 153 yX5_readNumber, Cond.instanceMethod yX5_readNumber, Cond.selects RX5 yX5_readNumber yX5_readNumber, Cond.code yX5_readNumber cX5_readNumber 4 (some .int), Cond.fieldLink RX5 169 "CaseOrder$Token" "NUMBER" "LCaseOrder$Token;", Cond.fieldLink RX5 172 "CaseOrder$Tape" "bytes" "[B", Cond.methodLink RX5 129 yX5_readSecond, Cond.instanceMethod yX5_readSecond, Cond.selects RX5 yX5_readSecond yX5_readSecond, Cond.code yX5_readSecond cX5_readSecond 2 (some .boolean), Cond.fieldLink RX5 160 "CaseOrder$Token" "TO" "LCaseOrder$Token;", Cond.fieldLink RX5 163 "CaseOrder$Saying" "second" "I", Cond.methodLink RX5 132 yX5_readStop, Cond.instanceMethod yX5_readStop, Cond.selects RX5 yX5_readStop yX5_readStop, Cond.code yX5_readStop cX5_readStop 1 (some .boolean)]
def wsL_tell_r10 : List Cond := [Cond.fieldLink RX5 166 "CaseOrder$Token" "STOP" "LCaseOrder$Token;", Cond.methodLink RX5 135 yX5_readSecondIfAny, Cond.instanceMethod yX5_readSecondIfAny, Cond.selects RX5 yX5_readSecondIfAny yX5_readSecondIfAny, Cond.code yX5_readSecondIfAny cX5_readSecondIfAny 2 (some .boolean), Cond.methodLink RX5 138 yX5_readOther, Cond.instanceMethod yX5_readOther, Cond.selects RX5 yX5_readOther yX5_readOther, Cond.code yX5_readOther cX5_readOther 2 (some .boolean), Cond.fieldLink RX5 144 "CaseOrder$Saying" "other" "I", Cond.fieldLink RX5 147 "CaseOrder$Saying" "own" "I", Cond.methodLink RX5 141 yX5_readGapIfAny, Cond.instanceMethod yX5_readGapIfAny, Cond.selects RX5 yX5_readGapIfAny yX5_readGapIfAny, Cond.code yX5_readGapIfAny cX5_readGapIfAny 2 (some .boolean), Cond.fieldLink RX5 150 "CaseOrder$Token" "BY" "LCaseOrder$Token;", Cond.methodLink RX5 76 yX3_settle, Cond.instanceMethod yX3_settle, Cond.selects RX3 yX3_settle yX3_settle, Cond.code yX3_settle cX3_settle 2 none, Cond.fieldLink RX3 19 "CaseOrder$Names" "size" "I", Cond.methodLink RX11 81 yX1_forget, Cond.instanceMethod yX1_forget, Cond.selects RX1 yX1_forget yX1_forget]
def wsL_tell_r11 : List Cond := [Cond.initialized RX1, Cond.code yX1_forget cX1_forget 1 none, Cond.fieldLink RX1 45 "CaseOrder$Hearing" "wayKnown" "Z", Cond.fieldLink RX1 52 "CaseOrder$Hearing" "quarrelKnown" "Z", Cond.fieldLink RX1 55 "CaseOrder$Hearing" "lineKnown" "Z"]
def wsL_tell : List Cond := .codeWith yL_tell cL_tell 4 (some .int) [(0, 9, 12, 13)] :: ((wsL_tell_r1 ++ (wsL_tell_r2 ++ (wsL_tell_r3 ++ (wsL_tell_r4 ++ (wsL_tell_r5 ++ (wsL_tell_r6 ++ (wsL_tell_r7 ++ (wsL_tell_r8 ++ (wsL_tell_r9 ++ (wsL_tell_r10 ++ wsL_tell_r11)))))))))) ++ wsX110 ++ wsX70 ++ wsX50 ++ wsX80 ++ wsX100 ++ wsX30 ++ wsX60 ++ wsX10 ++ (vx_atS RX11 71 "java/lang/IndexOutOfBoundsException" ["java/lang/RuntimeException", "java/lang/Exception"]).filter goodWord)
def wsL_saying_r1 : List Cond := [Cond.classLink RL 13 "java/lang/IndexOutOfBoundsException", Cond.classLink RL 19 "java/util/NoSuchElementException", Cond.methodLink RL 15 yX11_saying, Cond.instanceMethod yX11_saying, Cond.selects RX11 yX11_saying yX11_saying, Cond.initialized RX11, Cond.code yX11_saying cX11_saying 5 (some .int), Cond.classLink RX11 67 "java/lang/IndexOutOfBoundsException", Cond.initialized "java/lang/IndexOutOfBoundsException", Cond.classLink RX11 96 "java/util/NoSuchElementException", Cond.initialized "java/util/NoSuchElementException", Cond.fieldLink RX11 25 "CaseOrder" "texts" "[LCaseOrder$Text;", Cond.fieldLink RX11 101 "CaseOrder$Text" "row" "[LCaseOrder$Saying;", Cond.fieldLink RX11 105 "CaseOrder$Saying" "word" "LCaseOrder$Token;", Cond.fieldLink RX11 111 "CaseOrder$Token" "kind" "I", Cond.fieldLink RX11 116 "CaseOrder$Saying" "own" "I", Cond.fieldLink RX11 119 "CaseOrder$Saying" "other" "I", Cond.fieldLink RX11 122 "CaseOrder$Saying" "first" "I", Cond.fieldLink RX11 125 "CaseOrder$Saying" "second" "I", Cond.fieldLink RX11 128 "CaseOrder$Saying" "place" "I", Cond.methodLink RX11 63 yX11_isTeller, Cond.static yX11_isTeller, Cond.code yX11_isTeller cX11_isTeller 1 (some .boolean), Cond.methodLink RX11 93 yX8_has]
def wsL_saying_r2 : List Cond := [Cond.instanceMethod yX8_has, Cond.selects RX8 yX8_has yX8_has, Cond.initialized RX8, Cond.code yX8_has cX8_has 2 (some .boolean), Cond.fieldLink RX8 17 "CaseOrder$Text" "size" "I"]
def wsL_saying : List Cond := .codeWith yL_saying cL_saying 6 (some .int) [(0, 12, 15, 13), (0, 12, 19, 19)] :: ((wsL_saying_r1 ++ wsL_saying_r2) ++ wsX110 ++ wsX80 ++ wsX60 ++ (vx_atS RX11 71 "java/lang/IndexOutOfBoundsException" ["java/lang/RuntimeException", "java/lang/Exception"]).filter goodWord ++ (vx_atX RX11 100 "java/util/NoSuchElementException" 13 prog_25_method_4_code ["java/lang/RuntimeException", "java/lang/Exception"]).filter goodWord)
def wsL_octet_r1 : List Cond := [Cond.classLink RL 19 "java/util/NoSuchElementException", Cond.methodLink RL 21 yX11_octet, Cond.instanceMethod yX11_octet, Cond.selects RX11 yX11_octet yX11_octet, Cond.initialized RX11, Cond.code yX11_octet cX11_octet 2 (some .int), Cond.classLink RX11 96 "java/util/NoSuchElementException", Cond.initialized "java/util/NoSuchElementException", Cond.fieldLink RX11 19 "CaseOrder" "names" "LCaseOrder$Names;", Cond.fieldLink RX11 52 "CaseOrder" "out" "I", Cond.methodLink RX11 150 yX11_outLength, Cond.instanceMethod yX11_outLength, Cond.selects RX11 yX11_outLength yX11_outLength, Cond.code yX11_outLength cX11_outLength 1 (some .int), Cond.fieldLink RX11 146 "CaseOrder$Names" "lengths" "[I", Cond.methodLink RX11 145 yX3_has, Cond.instanceMethod yX3_has, Cond.selects RX3 yX3_has yX3_has, Cond.initialized RX3, Cond.code yX3_has cX3_has 2 (some .boolean), Cond.fieldLink RX3 19 "CaseOrder$Names" "size" "I", Cond.methodLink RX11 155 yX3_letter, Cond.instanceMethod yX3_letter, Cond.selects RX3 yX3_letter yX3_letter]
def wsL_octet_r2 : List Cond := [Cond.code yX3_letter cX3_letter 3 (some .int), Cond.fieldLink RX3 9 "CaseOrder$Names" "letters" "[B"]
def wsL_octet : List Cond := .codeWith yL_octet cL_octet 4 (some .int) [(0, 9, 12, 19)] :: ((wsL_octet_r1 ++ wsL_octet_r2) ++ wsX110 ++ wsX30 ++ (vx_atX RX11 100 "java/util/NoSuchElementException" 13 prog_25_method_4_code ["java/lang/RuntimeException", "java/lang/Exception"]).filter goodWord)
def wsL_between_r1 : List Cond := [Cond.classLink RL 19 "java/util/NoSuchElementException", Cond.methodLink RL 24 yX11_between, Cond.instanceMethod yX11_between, Cond.selects RX11 yX11_between yX11_between, Cond.initialized RX11, Cond.code yX11_between cX11_between 4 (some .int), Cond.classLink RX11 96 "java/util/NoSuchElementException", Cond.initialized "java/util/NoSuchElementException", Cond.fieldLink RX11 19 "CaseOrder" "names" "LCaseOrder$Names;", Cond.fieldLink RX11 48 "CaseOrder" "hearing" "LCaseOrder$Hearing;", Cond.methodLink RX11 145 yX3_has, Cond.instanceMethod yX3_has, Cond.selects RX3 yX3_has yX3_has, Cond.initialized RX3, Cond.code yX3_has cX3_has 2 (some .boolean), Cond.fieldLink RX3 19 "CaseOrder$Names" "size" "I", Cond.methodLink RX11 159 yX1_hasWay, Cond.instanceMethod yX1_hasWay, Cond.selects RX1 yX1_hasWay yX1_hasWay, Cond.initialized RX1, Cond.code yX1_hasWay cX1_hasWay 1 (some .boolean), Cond.fieldLink RX1 45 "CaseOrder$Hearing" "wayKnown" "Z", Cond.fieldLink RX1 38 "CaseOrder$Hearing" "heard" "I", Cond.fieldLink RX1 49 "CaseOrder$Hearing" "way" "Z"]
def wsL_between_r2 : List Cond := [Cond.methodLink RX1 66 yX1_isWayFor, Cond.instanceMethod yX1_isWayFor, Cond.selects RX1 yX1_isWayFor yX1_isWayFor, Cond.code yX1_isWayFor cX1_isWayFor 2 (some .boolean), Cond.fieldLink RX1 12 "CaseOrder$Hearing" "net" "LCaseOrder$Net;", Cond.methodLink RX1 70 yX1_gather, Cond.instanceMethod yX1_gather, Cond.selects RX1 yX1_gather yX1_gather, Cond.code yX1_gather cX1_gather 4 none, Cond.fieldLink RX1 62 "CaseOrder$Hearing" "names" "LCaseOrder$Names;", Cond.fieldLink RX1 82 "CaseOrder$Names" "size" "I", Cond.fieldLink RX1 58 "CaseOrder$Hearing" "texts" "[LCaseOrder$Text;", Cond.fieldLink RX1 90 "CaseOrder$Text" "size" "I", Cond.fieldLink RX1 27 "CaseOrder$Hearing" "leftOut" "[Z", Cond.fieldLink RX1 96 "CaseOrder$Text" "row" "[LCaseOrder$Saying;", Cond.fieldLink RX1 100 "CaseOrder$Net" "links" "LCaseOrder$Links;", Cond.methodLink RX1 87 yX4_open, Cond.instanceMethod yX4_open, Cond.selects RX4 yX4_open yX4_open, Cond.initialized RX4, Cond.code yX4_open cX4_open 3 none, Cond.methodLink RX4 28 Lib.Math.min.name, Cond.static Lib.Math.min.name, Cond.initialized "java/lang/Math"]
def wsL_between_r3 : List Cond := [Cond.code Lib.Math.min.name Lib.Math.min.code 2 (some .int), Cond.fieldLink RX4 24 "CaseOrder$Net" "nodes" "I", Cond.fieldLink RX4 16 "CaseOrder$Net" "links" "LCaseOrder$Links;", Cond.fieldLink RX4 34 "CaseOrder$Links" "size" "I", Cond.methodLink RX4 37 yX4_firstOf, Cond.static yX4_firstOf, Cond.code yX4_firstOf cX4_firstOf 1 (some .int), Cond.methodLink RX4 41 yX2_add, Cond.instanceMethod yX2_add, Cond.selects RX2 yX2_add yX2_add, Cond.initialized RX2, Cond.code yX2_add cX2_add 4 none, Cond.fieldLink RX2 7 "CaseOrder$Links" "size" "I", Cond.fieldLink RX2 13 "CaseOrder$Links" "most" "I", Cond.fieldLink RX2 16 "CaseOrder$Links" "tails" "[I", Cond.fieldLink RX2 20 "CaseOrder$Links" "heads" "[I", Cond.fieldLink RX2 23 "CaseOrder$Links" "gaps" "[I", Cond.methodLink RX4 45 yX4_lastOf, Cond.static yX4_lastOf, Cond.code yX4_lastOf cX4_lastOf 1 (some .int), Cond.methodLink RX1 93 yX1_slot, Cond.static yX1_slot, Cond.code yX1_slot cX1_slot 2 (some .int), Cond.methodLink RX1 103 yX6_putInto]
def wsL_between_r4 : List Cond := [Cond.instanceMethod yX6_putInto, Cond.selects RX6 yX6_putInto yX6_putInto, Cond.initialized RX6, Cond.code yX6_putInto cX6_putInto 4 none, Cond.fieldLink RX6 20 "CaseOrder$Saying" "own" "I", Cond.fieldLink RX6 45 "CaseOrder$1" "$SwitchMap$CaseOrder$Token" "[I", Cond.fieldLink RX6 15 "CaseOrder$Saying" "word" "LCaseOrder$Token;", Cond.fieldLink RX6 27 "CaseOrder$Saying" "first" "I", Cond.fieldLink RX6 30 "CaseOrder$Saying" "second" "I", Cond.fieldLink RX6 24 "CaseOrder$Saying" "other" "I", Cond.methodLink RX6 36 yX4_firstOf, Cond.methodLink RX6 42 yX4_lastOf, Cond.methodLink RX6 51 ⟨"CaseOrder$Token", "ordinal", "()I"⟩, Cond.sameMethod "CaseOrder$Token" "java/lang/Enum" "ordinal" "()I", Cond.selects RX9 ⟨"CaseOrder$Token", "ordinal", "()I"⟩ yJx29ce0_ordinal_8abf5, Cond.instanceMethod yJx29ce0_ordinal_8abf5, Cond.initialized RJx29ce0, Cond.code yJx29ce0_ordinal_8abf5 cJx29ce0_ordinal_8abf5 1 (some .int), Cond.fieldLink RJx29ce0 7 "java/lang/Enum" "ordinal" "I", Cond.methodLink RX6 55 yX2_add, Cond.methodLink RX6 61 yX6_most, Cond.instanceMethod yX6_most, Cond.selects RX6 yX6_most yX6_most, Cond.code yX6_most cX6_most 1 (some .int)]
def wsL_between_r5 : List Cond := [Cond.methodLink RX1 73 yX4_measureFrom, Cond.instanceMethod yX4_measureFrom, Cond.selects RX4 yX4_measureFrom yX4_measureFrom, Cond.code yX4_measureFrom cX4_measureFrom 3 (some .boolean), Cond.fieldLink RX4 20 "CaseOrder$Net" "least" "[I", Cond.constant RX4 48 (-1000000000), Cond.methodLink RX4 49 yX4_pushAll, Cond.instanceMethod yX4_pushAll, Cond.selects RX4 yX4_pushAll yX4_pushAll, Cond.code yX4_pushAll cX4_pushAll 4 (some .boolean), Cond.fieldLink RX4 53 "CaseOrder$Links" "tails" "[I", Cond.fieldLink RX4 56 "CaseOrder$Links" "gaps" "[I", Cond.fieldLink RX4 59 "CaseOrder$Links" "heads" "[I", Cond.methodLink RX11 174 yX4_lastOf, Cond.methodLink RX11 165 yX4_firstOf, Cond.methodLink RX11 171 yX1_greatest, Cond.instanceMethod yX1_greatest, Cond.selects RX1 yX1_greatest yX1_greatest, Cond.code yX1_greatest cX1_greatest 3 (some .int), Cond.methodLink RX1 79 yX1_least, Cond.instanceMethod yX1_least, Cond.selects RX1 yX1_least yX1_least, Cond.code yX1_least cX1_least 3 (some .int), Cond.fieldLink RX1 76 "CaseOrder$Net" "least" "[I"]
def wsL_between_r6 : List Cond := [Cond.methodLink RX11 168 yX1_least]
def wsL_between : List Cond := .codeWith yL_between cL_between 6 (some .int) [(0, 12, 15, 19)] :: ((wsL_between_r1 ++ (wsL_between_r2 ++ (wsL_between_r3 ++ (wsL_between_r4 ++ (wsL_between_r5 ++ wsL_between_r6))))) ++ wsX110 ++ wsX30 ++ wsX10 ++ wsX80 ++ wsX40 ++ wsX20 ++ wsX60 ++ (vx_atX RX11 100 "java/util/NoSuchElementException" 13 prog_25_method_4_code ["java/lang/RuntimeException", "java/lang/Exception"]).filter goodWord)
def wsL_needless_r1 : List Cond := [Cond.classLink RL 13 "java/lang/IndexOutOfBoundsException", Cond.methodLink RL 28 yX11_needless, Cond.instanceMethod yX11_needless, Cond.selects RX11 yX11_needless yX11_needless, Cond.initialized RX11, Cond.code yX11_needless cX11_needless 3 (some .int), Cond.classLink RX11 67 "java/lang/IndexOutOfBoundsException", Cond.initialized "java/lang/IndexOutOfBoundsException", Cond.fieldLink RX11 25 "CaseOrder" "texts" "[LCaseOrder$Text;", Cond.fieldLink RX11 48 "CaseOrder" "hearing" "LCaseOrder$Hearing;", Cond.methodLink RX11 63 yX11_isTeller, Cond.static yX11_isTeller, Cond.code yX11_isTeller cX11_isTeller 1 (some .boolean), Cond.methodLink RX11 93 yX8_has, Cond.instanceMethod yX8_has, Cond.selects RX8 yX8_has yX8_has, Cond.initialized RX8, Cond.code yX8_has cX8_has 2 (some .boolean), Cond.fieldLink RX8 17 "CaseOrder$Text" "size" "I", Cond.methodLink RX11 193 yX1_hears, Cond.instanceMethod yX1_hears, Cond.selects RX1 yX1_hears yX1_hears, Cond.initialized RX1, Cond.code yX1_hears cX1_hears 2 (some .boolean)]
def wsL_needless_r2 : List Cond := [Cond.fieldLink RX1 38 "CaseOrder$Hearing" "heard" "I", Cond.methodLink RX11 159 yX1_hasWay, Cond.instanceMethod yX1_hasWay, Cond.selects RX1 yX1_hasWay yX1_hasWay, Cond.code yX1_hasWay cX1_hasWay 1 (some .boolean), Cond.fieldLink RX1 45 "CaseOrder$Hearing" "wayKnown" "Z", Cond.fieldLink RX1 49 "CaseOrder$Hearing" "way" "Z", Cond.methodLink RX1 66 yX1_isWayFor, Cond.instanceMethod yX1_isWayFor, Cond.selects RX1 yX1_isWayFor yX1_isWayFor, Cond.code yX1_isWayFor cX1_isWayFor 2 (some .boolean), Cond.fieldLink RX1 12 "CaseOrder$Hearing" "net" "LCaseOrder$Net;", Cond.methodLink RX1 70 yX1_gather, Cond.instanceMethod yX1_gather, Cond.selects RX1 yX1_gather yX1_gather, Cond.code yX1_gather cX1_gather 4 none, Cond.fieldLink RX1 62 "CaseOrder$Hearing" "names" "LCaseOrder$Names;", Cond.fieldLink RX1 82 "CaseOrder$Names" "size" "I", Cond.fieldLink RX1 58 "CaseOrder$Hearing" "texts" "[LCaseOrder$Text;", Cond.fieldLink RX1 90 "CaseOrder$Text" "size" "I", Cond.fieldLink RX1 27 "CaseOrder$Hearing" "leftOut" "[Z", Cond.fieldLink RX1 96 "CaseOrder$Text" "row" "[LCaseOrder$Saying;", Cond.fieldLink RX1 100 "CaseOrder$Net" "links" "LCaseOrder$Links;", Cond.methodLink RX1 87 yX4_open]
def wsL_needless_r3 : List Cond := [Cond.instanceMethod yX4_open, Cond.selects RX4 yX4_open yX4_open, Cond.initialized RX4, Cond.code yX4_open cX4_open 3 none, Cond.methodLink RX4 28 Lib.Math.min.name, Cond.static Lib.Math.min.name, Cond.initialized "java/lang/Math", Cond.code Lib.Math.min.name Lib.Math.min.code 2 (some .int), Cond.fieldLink RX4 24 "CaseOrder$Net" "nodes" "I", Cond.fieldLink RX4 16 "CaseOrder$Net" "links" "LCaseOrder$Links;", Cond.fieldLink RX4 34 "CaseOrder$Links" "size" "I", Cond.methodLink RX4 37 yX4_firstOf, Cond.static yX4_firstOf, Cond.code yX4_firstOf cX4_firstOf 1 (some .int), Cond.methodLink RX4 41 yX2_add, Cond.instanceMethod yX2_add, Cond.selects RX2 yX2_add yX2_add, Cond.initialized RX2, Cond.code yX2_add cX2_add 4 none, Cond.fieldLink RX2 7 "CaseOrder$Links" "size" "I", Cond.fieldLink RX2 13 "CaseOrder$Links" "most" "I", Cond.fieldLink RX2 16 "CaseOrder$Links" "tails" "[I", Cond.fieldLink RX2 20 "CaseOrder$Links" "heads" "[I", Cond.fieldLink RX2 23 "CaseOrder$Links" "gaps" "[I"]
def wsL_needless_r4 : List Cond := [Cond.methodLink RX4 45 yX4_lastOf, Cond.static yX4_lastOf, Cond.code yX4_lastOf cX4_lastOf 1 (some .int), Cond.methodLink RX1 93 yX1_slot, Cond.static yX1_slot, Cond.code yX1_slot cX1_slot 2 (some .int), Cond.methodLink RX1 103 yX6_putInto, Cond.instanceMethod yX6_putInto, Cond.selects RX6 yX6_putInto yX6_putInto, Cond.initialized RX6, Cond.code yX6_putInto cX6_putInto 4 none, Cond.fieldLink RX6 20 "CaseOrder$Saying" "own" "I", Cond.fieldLink RX6 45 "CaseOrder$1" "$SwitchMap$CaseOrder$Token" "[I", Cond.fieldLink RX6 15 "CaseOrder$Saying" "word" "LCaseOrder$Token;", Cond.fieldLink RX6 27 "CaseOrder$Saying" "first" "I", Cond.fieldLink RX6 30 "CaseOrder$Saying" "second" "I", Cond.fieldLink RX6 24 "CaseOrder$Saying" "other" "I", Cond.methodLink RX6 36 yX4_firstOf, Cond.methodLink RX6 42 yX4_lastOf, Cond.methodLink RX6 51 ⟨"CaseOrder$Token", "ordinal", "()I"⟩, Cond.sameMethod "CaseOrder$Token" "java/lang/Enum" "ordinal" "()I", Cond.selects RX9 ⟨"CaseOrder$Token", "ordinal", "()I"⟩ yJx29ce0_ordinal_8abf5, Cond.instanceMethod yJx29ce0_ordinal_8abf5, Cond.initialized RJx29ce0]
def wsL_needless_r5 : List Cond := [Cond.code yJx29ce0_ordinal_8abf5 cJx29ce0_ordinal_8abf5 1 (some .int), Cond.fieldLink RJx29ce0 7 "java/lang/Enum" "ordinal" "I", Cond.methodLink RX6 55 yX2_add, Cond.methodLink RX6 61 yX6_most, Cond.instanceMethod yX6_most, Cond.selects RX6 yX6_most yX6_most, Cond.code yX6_most cX6_most 1 (some .int), Cond.methodLink RX1 73 yX4_measureFrom, Cond.instanceMethod yX4_measureFrom, Cond.selects RX4 yX4_measureFrom yX4_measureFrom, Cond.code yX4_measureFrom cX4_measureFrom 3 (some .boolean), Cond.fieldLink RX4 20 "CaseOrder$Net" "least" "[I", Cond.constant RX4 48 (-1000000000), Cond.methodLink RX4 49 yX4_pushAll, Cond.instanceMethod yX4_pushAll, Cond.selects RX4 yX4_pushAll yX4_pushAll, Cond.code yX4_pushAll cX4_pushAll 4 (some .boolean), Cond.fieldLink RX4 53 "CaseOrder$Links" "tails" "[I", Cond.fieldLink RX4 56 "CaseOrder$Links" "gaps" "[I", Cond.fieldLink RX4 59 "CaseOrder$Links" "heads" "[I", Cond.methodLink RX11 196 yX1_followsFromOthers, Cond.instanceMethod yX1_followsFromOthers, Cond.selects RX1 yX1_followsFromOthers yX1_followsFromOthers, Cond.code yX1_followsFromOthers cX1_followsFromOthers 4 (some .boolean)]
def wsL_needless_r6 : List Cond := [Cond.fieldLink RX1 23 "CaseOrder$Hearing" "claims" "LCaseOrder$Links;", Cond.fieldLink RX1 122 "CaseOrder$Links" "size" "I", Cond.fieldLink RX1 123 "CaseOrder$Links" "tails" "[I", Cond.fieldLink RX1 76 "CaseOrder$Net" "least" "[I", Cond.fieldLink RX1 126 "CaseOrder$Links" "heads" "[I", Cond.fieldLink RX1 129 "CaseOrder$Links" "gaps" "[I"]
def wsL_needless : List Cond := .codeWith yL_needless cL_needless 5 (some .int) [(0, 10, 13, 13)] :: ((wsL_needless_r1 ++ (wsL_needless_r2 ++ (wsL_needless_r3 ++ (wsL_needless_r4 ++ (wsL_needless_r5 ++ wsL_needless_r6))))) ++ wsX110 ++ wsX80 ++ wsX10 ++ wsX30 ++ wsX40 ++ wsX20 ++ wsX60 ++ (vx_atS RX11 71 "java/lang/IndexOutOfBoundsException" ["java/lang/RuntimeException", "java/lang/Exception"]).filter goodWord)
def wsL_sayings : List Cond := .codeWith yL_sayings cL_sayings 4 (some .int) [(0, 9, 12, 13)] :: ([.classLink RL 13 "java/lang/IndexOutOfBoundsException", .methodLink RL 32 yX11_sayings, .instanceMethod yX11_sayings, .selects RX11 yX11_sayings yX11_sayings, .initialized RX11, .code yX11_sayings cX11_sayings 2 (some .int), .classLink RX11 67 "java/lang/IndexOutOfBoundsException", .initialized "java/lang/IndexOutOfBoundsException", .fieldLink RX11 25 "CaseOrder" "texts" "[LCaseOrder$Text;", .fieldLink RX11 84 "CaseOrder$Text" "size" "I", .methodLink RX11 63 yX11_isTeller, .static yX11_isTeller, .code yX11_isTeller cX11_isTeller 1 (some .boolean)] ++ wsX110 ++ wsX80 ++ (vx_atS RX11 71 "java/lang/IndexOutOfBoundsException" ["java/lang/RuntimeException", "java/lang/Exception"]).filter goodWord)
set_option maxRecDepth 20000 in
theorem ggL_tell_X11_tell : GoodIn wsL_tell wsX11_tell := goodIn_ca (goodIn_r _ [6, 7, 8, 9, 10, 11, 12, 13, 14, 15, 16, 17, 18, 5, 19, 20, 21, 22, 23, 24, 25, 26, 27, 28, 29, 30, 31, 32, 33, 34, 35, 36, 37, 38, 39, 40, 41, 42, 43, 44, 45, 46, 47, 48, 49, 50, 51, 52, 53, 54, 55, 56, 57, 58, 59, 60, 61, 62, 63, 64, 65, 66, 67, 68, 69, 70, 71, 72, 73, 74, 75, 76, 77, 78, 79, 80, 81, 82, 83, 84, 85, 86, 87, 88, 89, 90, 91, 92, 93, 94, 95, 96, 97, 98, 99, 100, 101, 102, 103, 104, 105, 106, 107, 108, 109, 110, 111, 112, 113, 114, 115, 116, 117, 118, 119, 120, 121, 122, 123, 124, 125, 126, 127, 128, 129, 130, 131, 132, 133, 134, 135, 136, 137, 138, 139, 140, 141, 142, 143, 144, 145, 146, 147, 148, 149, 150, 151, 152, 153, 154, 155, 156, 157, 158, 159, 160, 161, 162, 163, 164, 165, 166, 167, 168, 169, 170, 171, 172, 173, 174, 175, 176, 177, 178, 179, 180, 181, 182, 183, 184, 185, 186, 187, 188, 189, 190, 191, 192, 193, 194, 195, 196, 197, 198, 199, 200, 201, 202, 203, 204, 205, 206, 207, 208, 209, 210, 211, 212, 213, 214, 215, 216, 217, 218, 219, 220, 221, 222, 223, 224, 225, 226, 227, 228, 229, 230, 231, 232, 233, 234, 235, 236, 237, 238, 239, 240, 241, 242, 243, 244, 245, 246, 247, 248, 249, 250, 251, 252, 253, 254, 255, 256, 257, 258, 259, 260, 261, 262, 263, 264, 265, 266, 267, 268, 269, 270, 271, 272, 273, 274, 275, 276, 277, 278, 279, 280, 281, 282, 283, 284, 285, 286, 287, 288, 289] (by decide +kernel) (by decide +kernel)) (goodIn_sub (fun _ h => List.mem_cons_of_mem _ (List.mem_append_right _ h)) (by decide +kernel))
set_option maxRecDepth 20000 in
theorem gL_tell_X11_tell : GoodIn wsL_tell (wsV RL 7 RX11 yX11_tell wsX11_tell) := goodIn_app (goodIn_of _ (by decide +kernel)) ggL_tell_X11_tell
set_option maxRecDepth 20000 in
theorem dL_tell_0 : decode cL_tell 0 = .ok (.aload_n 2, 1) := by decide +kernel
set_option maxRecDepth 20000 in
theorem dL_tell_1 : decode cL_tell 1 = .ok (.iconst 0, 1) := by decide +kernel
set_option maxRecDepth 20000 in
theorem dL_tell_2 : decode cL_tell 2 = .ok (.aload_n 0, 1) := by decide +kernel
set_option maxRecDepth 20000 in
theorem dL_tell_3 : decode cL_tell 3 = .ok (.iload_n 1, 1) := by decide +kernel
set_option maxRecDepth 20000 in
theorem dL_tell_4 : decode cL_tell 4 = .ok (.invokevirtual 7, 3) := by decide +kernel
set_option maxRecDepth 20000 in
theorem dL_tell_7 : decode cL_tell 7 = .ok (.i2l, 1) := by decide +kernel
set_option maxRecDepth 20000 in
theorem dL_tell_8 : decode cL_tell 8 = .ok (.lastore, 1) := by decide +kernel
set_option maxRecDepth 20000 in
theorem dL_tell_9 : decode cL_tell 9 = .ok (.goto 6, 3) := by decide +kernel
set_option maxRecDepth 20000 in
theorem dL_tell_12 : decode cL_tell 12 = .ok (.astore_n 3, 1) := by decide +kernel
set_option maxRecDepth 20000 in
theorem dL_tell_13 : decode cL_tell 13 = .ok (.iconst 1, 1) := by decide +kernel
set_option maxRecDepth 20000 in
theorem dL_tell_14 : decode cL_tell 14 = .ok (.ireturn, 1) := by decide +kernel
set_option maxRecDepth 20000 in
theorem dL_tell_15 : decode cL_tell 15 = .ok (.iconst 0, 1) := by decide +kernel
set_option maxRecDepth 20000 in
theorem dL_tell_16 : decode cL_tell 16 = .ok (.ireturn, 1) := by decide +kernel
set_option maxRecDepth 20000 in
theorem ggL_saying_X11_saying : GoodIn wsL_saying wsX11_saying := goodIn_ca (goodIn_ca (goodIn_r _ [7, 8, 9, 10, 11, 12, 13, 14, 15, 16, 17, 18, 19, 20, 21, 22, 6, 23, 24, 25, 26, 27, 28, 29, 30, 31, 32, 33, 34, 35, 36, 37, 38, 39, 40, 41, 42, 43, 44] (by decide +kernel) (by decide +kernel)) (goodIn_sub (fun _ h => List.mem_cons_of_mem _ (List.mem_append_left _ (List.mem_append_right _ h))) (by decide +kernel))) (goodIn_sub (fun _ h => List.mem_cons_of_mem _ (List.mem_append_right _ h)) (by decide +kernel))
set_option maxRecDepth 20000 in
theorem gL_saying_X11_saying : GoodIn wsL_saying (wsV RL 15 RX11 yX11_saying wsX11_saying) := goodIn_app (goodIn_of _ (by decide +kernel)) ggL_saying_X11_saying
set_option maxRecDepth 20000 in
theorem dL_saying_0 : decode cL_saying 0 = .ok (.aload 4, 2) := by decide +kernel
set_option maxRecDepth 20000 in
theorem dL_saying_2 : decode cL_saying 2 = .ok (.iconst 0, 1) := by decide +kernel
set_option maxRecDepth 20000 in
theorem dL_saying_3 : decode cL_saying 3 = .ok (.aload_n 0, 1) := by decide +kernel
set_option maxRecDepth 20000 in
theorem dL_saying_4 : decode cL_saying 4 = .ok (.iload_n 1, 1) := by decide +kernel
set_option maxRecDepth 20000 in
theorem dL_saying_5 : decode cL_saying 5 = .ok (.iload_n 2, 1) := by decide +kernel
set_option maxRecDepth 20000 in
theorem dL_saying_6 : decode cL_saying 6 = .ok (.iload_n 3, 1) := by decide +kernel
set_option maxRecDepth 20000 in
theorem dL_saying_7 : decode cL_saying 7 = .ok (.invokevirtual 15, 3) := by decide +kernel
set_option maxRecDepth 20000 in
theorem dL_saying_10 : decode cL_saying 10 = .ok (.i2l, 1) := by decide +kernel
set_option maxRecDepth 20000 in
theorem dL_saying_11 : decode cL_saying 11 = .ok (.lastore, 1) := by decide +kernel
set_option maxRecDepth 20000 in
theorem dL_saying_12 : decode cL_saying 12 = .ok (.goto 11, 3) := by decide +kernel
set_option maxRecDepth 20000 in
theorem dL_saying_15 : decode cL_saying 15 = .ok (.astore 5, 2) := by decide +kernel
set_option maxRecDepth 20000 in
theorem dL_saying_17 : decode cL_saying 17 = .ok (.iconst 1, 1) := by decide +kernel
set_option maxRecDepth 20000 in
theorem dL_saying_18 : decode cL_saying 18 = .ok (.ireturn, 1) := by decide +kernel
set_option maxRecDepth 20000 in
theorem dL_saying_19 : decode cL_saying 19 = .ok (.astore 5, 2) := by decide +kernel
set_option maxRecDepth 20000 in
theorem dL_saying_21 : decode cL_saying 21 = .ok (.iconst 2, 1) := by decide +kernel
set_option maxRecDepth 20000 in
theorem dL_saying_22 : decode cL_saying 22 = .ok (.ireturn, 1) := by decide +kernel
set_option maxRecDepth 20000 in
theorem dL_saying_23 : decode cL_saying 23 = .ok (.iconst 0, 1) := by decide +kernel
set_option maxRecDepth 20000 in
theorem dL_saying_24 : decode cL_saying 24 = .ok (.ireturn, 1) := by decide +kernel
set_option maxRecDepth 20000 in
theorem ggL_octet_X11_octet : GoodIn wsL_octet wsX11_octet := goodIn_ca (goodIn_r _ [6, 7, 8, 9, 10, 11, 12, 13, 5, 14, 15, 16, 17, 18, 19, 20, 21, 22, 23, 24, 25, 26, 27, 28, 29, 30, 31, 32, 33, 34, 35, 36, 37] (by decide +kernel) (by decide +kernel)) (goodIn_sub (fun _ h => List.mem_cons_of_mem _ (List.mem_append_right _ h)) (by decide +kernel))
set_option maxRecDepth 20000 in
theorem gL_octet_X11_octet : GoodIn wsL_octet (wsV RL 21 RX11 yX11_octet wsX11_octet) := goodIn_app (goodIn_of _ (by decide +kernel)) ggL_octet_X11_octet
set_option maxRecDepth 20000 in
theorem dL_octet_0 : decode cL_octet 0 = .ok (.aload_n 2, 1) := by decide +kernel
set_option maxRecDepth 20000 in
theorem dL_octet_1 : decode cL_octet 1 = .ok (.iconst 0, 1) := by decide +kernel
set_option maxRecDepth 20000 in
theorem dL_octet_2 : decode cL_octet 2 = .ok (.aload_n 0, 1) := by decide +kernel
set_option maxRecDepth 20000 in
theorem dL_octet_3 : decode cL_octet 3 = .ok (.iload_n 1, 1) := by decide +kernel
set_option maxRecDepth 20000 in
theorem dL_octet_4 : decode cL_octet 4 = .ok (.invokevirtual 21, 3) := by decide +kernel
set_option maxRecDepth 20000 in
theorem dL_octet_7 : decode cL_octet 7 = .ok (.i2l, 1) := by decide +kernel
set_option maxRecDepth 20000 in
theorem dL_octet_8 : decode cL_octet 8 = .ok (.lastore, 1) := by decide +kernel
set_option maxRecDepth 20000 in
theorem dL_octet_9 : decode cL_octet 9 = .ok (.goto 6, 3) := by decide +kernel
set_option maxRecDepth 20000 in
theorem dL_octet_12 : decode cL_octet 12 = .ok (.astore_n 3, 1) := by decide +kernel
set_option maxRecDepth 20000 in
theorem dL_octet_13 : decode cL_octet 13 = .ok (.iconst 1, 1) := by decide +kernel
set_option maxRecDepth 20000 in
theorem dL_octet_14 : decode cL_octet 14 = .ok (.ireturn, 1) := by decide +kernel
set_option maxRecDepth 20000 in
theorem dL_octet_15 : decode cL_octet 15 = .ok (.iconst 0, 1) := by decide +kernel
set_option maxRecDepth 20000 in
theorem dL_octet_16 : decode cL_octet 16 = .ok (.ireturn, 1) := by decide +kernel
set_option maxRecDepth 20000 in
theorem ggL_between_X11_between : GoodIn wsL_between wsX11_between := goodIn_ca (goodIn_r _ [6, 7, 8, 9, 10, 11, 12, 13, 14, 15, 16, 17, 18, 19, 20, 21, 22, 23, 24, 25, 26, 27, 28, 29, 30, 31, 32, 33, 34, 35, 36, 37, 38, 39, 40, 41, 42, 43, 44, 45, 46, 47, 48, 49, 50, 51, 52, 53, 54, 55, 56, 57, 58, 59, 60, 61, 62, 63, 64, 65, 66, 67, 68, 69, 70, 71, 72, 73, 74, 75, 76, 77, 78, 79, 80, 81, 82, 83, 84, 85, 86, 87, 88, 89, 90, 91, 92, 93, 94, 95, 96, 97, 98, 99, 100, 101, 102, 103, 104, 105, 106, 107, 108, 109, 110, 111, 112, 113, 114, 115, 116, 117, 118, 119, 120, 121, 122, 123, 124, 125, 126, 127, 128, 129, 130, 131, 132, 133, 134, 135, 136, 137, 138, 139, 140, 141, 142, 143, 144, 145, 146, 147, 148, 149, 150, 151, 152, 153, 154, 155, 156, 157, 158, 159, 160, 161] (by decide +kernel) (by decide +kernel)) (goodIn_sub (fun _ h => List.mem_cons_of_mem _ (List.mem_append_right _ h)) (by decide +kernel))
set_option maxRecDepth 20000 in
theorem gL_between_X11_between : GoodIn wsL_between (wsV RL 24 RX11 yX11_between wsX11_between) := goodIn_app (goodIn_of _ (by decide +kernel)) ggL_between_X11_between
set_option maxRecDepth 20000 in
theorem dL_between_0 : decode cL_between 0 = .ok (.aload 4, 2) := by decide +kernel
set_option maxRecDepth 20000 in
theorem dL_between_2 : decode cL_between 2 = .ok (.iconst 0, 1) := by decide +kernel
set_option maxRecDepth 20000 in
theorem dL_between_3 : decode cL_between 3 = .ok (.aload_n 0, 1) := by decide +kernel
set_option maxRecDepth 20000 in
theorem dL_between_4 : decode cL_between 4 = .ok (.iload_n 1, 1) := by decide +kernel
set_option maxRecDepth 20000 in
theorem dL_between_5 : decode cL_between 5 = .ok (.iload_n 2, 1) := by decide +kernel
set_option maxRecDepth 20000 in
theorem dL_between_6 : decode cL_between 6 = .ok (.iload_n 3, 1) := by decide +kernel
set_option maxRecDepth 20000 in
theorem dL_between_7 : decode cL_between 7 = .ok (.invokevirtual 24, 3) := by decide +kernel
set_option maxRecDepth 20000 in
theorem dL_between_10 : decode cL_between 10 = .ok (.i2l, 1) := by decide +kernel
set_option maxRecDepth 20000 in
theorem dL_between_11 : decode cL_between 11 = .ok (.lastore, 1) := by decide +kernel
set_option maxRecDepth 20000 in
theorem dL_between_12 : decode cL_between 12 = .ok (.goto 7, 3) := by decide +kernel
set_option maxRecDepth 20000 in
theorem dL_between_15 : decode cL_between 15 = .ok (.astore 5, 2) := by decide +kernel
set_option maxRecDepth 20000 in
theorem dL_between_17 : decode cL_between 17 = .ok (.iconst 1, 1) := by decide +kernel
set_option maxRecDepth 20000 in
theorem dL_between_18 : decode cL_between 18 = .ok (.ireturn, 1) := by decide +kernel
set_option maxRecDepth 20000 in
theorem dL_between_19 : decode cL_between 19 = .ok (.iconst 0, 1) := by decide +kernel
set_option maxRecDepth 20000 in
theorem dL_between_20 : decode cL_between 20 = .ok (.ireturn, 1) := by decide +kernel
set_option maxRecDepth 20000 in
theorem ggL_needless_X11_needless : GoodIn wsL_needless wsX11_needless := goodIn_ca (goodIn_r _ [6, 7, 8, 9, 10, 11, 12, 5, 13, 14, 15, 16, 17, 18, 19, 20, 21, 22, 23, 24, 25, 26, 27, 28, 29, 30, 31, 32, 33, 34, 35, 36, 37, 38, 39, 40, 41, 42, 43, 44, 45, 46, 47, 48, 49, 50, 51, 52, 53, 54, 55, 56, 57, 58, 59, 60, 61, 62, 63, 64, 65, 66, 67, 68, 69, 70, 71, 72, 73, 74, 75, 76, 77, 78, 79, 80, 81, 82, 83, 84, 85, 86, 87, 88, 89, 90, 91, 92, 93, 94, 95, 96, 97, 98, 99, 100, 101, 102, 103, 104, 105, 106, 107, 108, 109, 110, 111, 112, 113, 114, 115, 116, 117, 118, 119, 120, 121, 122, 123, 124, 125, 126, 127, 128, 129, 130, 131, 132, 133, 134, 135, 136, 137, 138, 139, 140, 141, 142, 143, 144, 145, 146, 147, 148, 149, 150, 151, 152, 153, 154, 155, 156, 157, 158, 159, 160, 161, 162, 163, 164, 165, 166] (by decide +kernel) (by decide +kernel)) (goodIn_sub (fun _ h => List.mem_cons_of_mem _ (List.mem_append_right _ h)) (by decide +kernel))
set_option maxRecDepth 20000 in
theorem gL_needless_X11_needless : GoodIn wsL_needless (wsV RL 28 RX11 yX11_needless wsX11_needless) := goodIn_app (goodIn_of _ (by decide +kernel)) ggL_needless_X11_needless
set_option maxRecDepth 20000 in
theorem dL_needless_0 : decode cL_needless 0 = .ok (.aload_n 3, 1) := by decide +kernel
set_option maxRecDepth 20000 in
theorem dL_needless_1 : decode cL_needless 1 = .ok (.iconst 0, 1) := by decide +kernel
set_option maxRecDepth 20000 in
theorem dL_needless_2 : decode cL_needless 2 = .ok (.aload_n 0, 1) := by decide +kernel
set_option maxRecDepth 20000 in
theorem dL_needless_3 : decode cL_needless 3 = .ok (.iload_n 1, 1) := by decide +kernel
set_option maxRecDepth 20000 in
theorem dL_needless_4 : decode cL_needless 4 = .ok (.iload_n 2, 1) := by decide +kernel
set_option maxRecDepth 20000 in
theorem dL_needless_5 : decode cL_needless 5 = .ok (.invokevirtual 28, 3) := by decide +kernel
set_option maxRecDepth 20000 in
theorem dL_needless_8 : decode cL_needless 8 = .ok (.i2l, 1) := by decide +kernel
set_option maxRecDepth 20000 in
theorem dL_needless_9 : decode cL_needless 9 = .ok (.lastore, 1) := by decide +kernel
set_option maxRecDepth 20000 in
theorem dL_needless_10 : decode cL_needless 10 = .ok (.goto 7, 3) := by decide +kernel
set_option maxRecDepth 20000 in
theorem dL_needless_13 : decode cL_needless 13 = .ok (.astore 4, 2) := by decide +kernel
set_option maxRecDepth 20000 in
theorem dL_needless_15 : decode cL_needless 15 = .ok (.iconst 1, 1) := by decide +kernel
set_option maxRecDepth 20000 in
theorem dL_needless_16 : decode cL_needless 16 = .ok (.ireturn, 1) := by decide +kernel
set_option maxRecDepth 20000 in
theorem dL_needless_17 : decode cL_needless 17 = .ok (.iconst 0, 1) := by decide +kernel
set_option maxRecDepth 20000 in
theorem dL_needless_18 : decode cL_needless 18 = .ok (.ireturn, 1) := by decide +kernel
set_option maxRecDepth 20000 in
theorem ggL_sayings_X11_sayings : GoodIn wsL_sayings wsX11_sayings := goodIn_ca (goodIn_r _ [6, 7, 8, 9, 10, 11, 12, 5, 13, 14, 15, 16, 17, 18, 19, 20, 21, 22] (by decide +kernel) (by decide +kernel)) (goodIn_sub (fun _ h => List.mem_cons_of_mem _ (List.mem_append_right _ h)) (by decide +kernel))
set_option maxRecDepth 20000 in
theorem gL_sayings_X11_sayings : GoodIn wsL_sayings (wsV RL 32 RX11 yX11_sayings wsX11_sayings) := goodIn_app (goodIn_of _ (by decide +kernel)) ggL_sayings_X11_sayings
set_option maxRecDepth 20000 in
theorem dL_sayings_0 : decode cL_sayings 0 = .ok (.aload_n 2, 1) := by decide +kernel
set_option maxRecDepth 20000 in
theorem dL_sayings_1 : decode cL_sayings 1 = .ok (.iconst 0, 1) := by decide +kernel
set_option maxRecDepth 20000 in
theorem dL_sayings_2 : decode cL_sayings 2 = .ok (.aload_n 0, 1) := by decide +kernel
set_option maxRecDepth 20000 in
theorem dL_sayings_3 : decode cL_sayings 3 = .ok (.iload_n 1, 1) := by decide +kernel
set_option maxRecDepth 20000 in
theorem dL_sayings_4 : decode cL_sayings 4 = .ok (.invokevirtual 32, 3) := by decide +kernel
set_option maxRecDepth 20000 in
theorem dL_sayings_7 : decode cL_sayings 7 = .ok (.i2l, 1) := by decide +kernel
set_option maxRecDepth 20000 in
theorem dL_sayings_8 : decode cL_sayings 8 = .ok (.lastore, 1) := by decide +kernel
set_option maxRecDepth 20000 in
theorem dL_sayings_9 : decode cL_sayings 9 = .ok (.goto 6, 3) := by decide +kernel
set_option maxRecDepth 20000 in
theorem dL_sayings_12 : decode cL_sayings 12 = .ok (.astore_n 3, 1) := by decide +kernel
set_option maxRecDepth 20000 in
theorem dL_sayings_13 : decode cL_sayings 13 = .ok (.iconst 1, 1) := by decide +kernel
set_option maxRecDepth 20000 in
theorem dL_sayings_14 : decode cL_sayings 14 = .ok (.ireturn, 1) := by decide +kernel
set_option maxRecDepth 20000 in
theorem dL_sayings_15 : decode cL_sayings 15 = .ok (.iconst 0, 1) := by decide +kernel
set_option maxRecDepth 20000 in
theorem dL_sayings_16 : decode cL_sayings 16 = .ok (.ireturn, 1) := by decide +kernel
