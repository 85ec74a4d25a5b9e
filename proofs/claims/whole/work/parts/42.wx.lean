def wsX11_tell : List Cond := .code yX11_tell cX11_tell 4 (some .int) :: ((wsX11_tell_r1 ++ (wsX11_tell_r2 ++ (wsX11_tell_r3 ++ (wsX11_tell_r4 ++ (wsX11_tell_r5 ++ (wsX11_tell_r6 ++ (wsX11_tell_r7 ++ (wsX11_tell_r8 ++ (wsX11_tell_r9 ++ wsX11_tell_r10))))))))) ++ wsX110 ++ wsX70 ++ wsX50 ++ wsX80 ++ wsX100 ++ wsX30 ++ wsX60 ++ wsX10 ++ (vx_atS RX11 71 "java/lang/IndexOutOfBoundsException" ["java/lang/RuntimeException", "java/lang/Exception"]).filter goodWord)
def wsX11_saying : List Cond := .code yX11_saying cX11_saying 5 (some .int) :: ([.classLink RX11 67 "java/lang/IndexOutOfBoundsException", .initialized "java/lang/IndexOutOfBoundsException", .classLink RX11 96 "java/util/NoSuchElementException", .initialized "java/util/NoSuchElementException", .fieldLink RX11 25 "CaseOrder" "texts" "[LCaseOrder$Text;", .fieldLink RX11 101 "CaseOrder$Text" "row" "[LCaseOrder$Saying;", .fieldLink RX11 105 "CaseOrder$Saying" "word" "LCaseOrder$Token;", .fieldLink RX11 111 "CaseOrder$Token" "kind" "I", .fieldLink RX11 116 "CaseOrder$Saying" "own" "I", .fieldLink RX11 119 "CaseOrder$Saying" "other" "I", .fieldLink RX11 122 "CaseOrder$Saying" "first" "I", .fieldLink RX11 125 "CaseOrder$Saying" "second" "I", .fieldLink RX11 128 "CaseOrder$Saying" "place" "I", .methodLink RX11 63 yX11_isTeller, .static yX11_isTeller, .initialized RX11, .code yX11_isTeller cX11_isTeller 1 (some .boolean), .methodLink RX11 93 yX8_has, .instanceMethod yX8_has, .selects RX8 yX8_has yX8_has, .initialized RX8, .code yX8_has cX8_has 2 (some .boolean), .fieldLink RX8 17 "CaseOrder$Text" "size" "I"] ++ wsX110 ++ wsX80 ++ wsX60 ++ (vx_atS RX11 71 "java/lang/IndexOutOfBoundsException" ["java/lang/RuntimeException", "java/lang/Exception"]).filter goodWord ++ (vx_atX RX11 100 "java/util/NoSuchElementException" 13 prog_25_method_4_code ["java/lang/RuntimeException", "java/lang/Exception"]).filter goodWord)
def wsX11_octet : List Cond := .code yX11_octet cX11_octet 2 (some .int) :: ([.classLink RX11 96 "java/util/NoSuchElementException", .initialized "java/util/NoSuchElementException", .fieldLink RX11 19 "CaseOrder" "names" "LCaseOrder$Names;", .fieldLink RX11 52 "CaseOrder" "out" "I", .methodLink RX11 150 yX11_outLength, .instanceMethod yX11_outLength, .selects RX11 yX11_outLength yX11_outLength, .initialized RX11, .code yX11_outLength cX11_outLength 1 (some .int), .fieldLink RX11 146 "CaseOrder$Names" "lengths" "[I", .methodLink RX11 145 yX3_has, .instanceMethod yX3_has, .selects RX3 yX3_has yX3_has, .initialized RX3, .code yX3_has cX3_has 2 (some .boolean), .fieldLink RX3 19 "CaseOrder$Names" "size" "I", .methodLink RX11 155 yX3_letter, .instanceMethod yX3_letter, .selects RX3 yX3_letter yX3_letter, .code yX3_letter cX3_letter 3 (some .int), .fieldLink RX3 9 "CaseOrder$Names" "letters" "[B"] ++ wsX110 ++ wsX30 ++ (vx_atX RX11 100 "java/util/NoSuchElementException" 13 prog_25_method_4_code ["java/lang/RuntimeException", "java/lang/Exception"]).filter goodWord)
def wsX11_between : List Cond := .code yX11_between cX11_between 4 (some .int) :: ((wsX11_between_r1 ++ (wsX11_between_r2 ++ (wsX11_between_r3 ++ (wsX11_between_r4 ++ wsX11_between_r5)))) ++ wsX110 ++ wsX30 ++ wsX10 ++ wsX80 ++ wsX40 ++ wsX20 ++ wsX60 ++ (vx_atX RX11 100 "java/util/NoSuchElementException" 13 prog_25_method_4_code ["java/lang/RuntimeException", "java/lang/Exception"]).filter goodWord)
def wsX11_needless : List Cond := .code yX11_needless cX11_needless 3 (some .int) :: ((wsX11_needless_r1 ++ (wsX11_needless_r2 ++ (wsX11_needless_r3 ++ (wsX11_needless_r4 ++ (wsX11_needless_r5 ++ wsX11_needless_r6))))) ++ wsX110 ++ wsX80 ++ wsX10 ++ wsX30 ++ wsX40 ++ wsX20 ++ wsX60 ++ (vx_atS RX11 71 "java/lang/IndexOutOfBoundsException" ["java/lang/RuntimeException", "java/lang/Exception"]).filter goodWord)
def wsX11_sayings : List Cond := .code yX11_sayings cX11_sayings 2 (some .int) :: ([.classLink RX11 67 "java/lang/IndexOutOfBoundsException", .initialized "java/lang/IndexOutOfBoundsException", .fieldLink RX11 25 "CaseOrder" "texts" "[LCaseOrder$Text;", .fieldLink RX11 84 "CaseOrder$Text" "size" "I", .methodLink RX11 63 yX11_isTeller, .static yX11_isTeller, .initialized RX11, .code yX11_isTeller cX11_isTeller 1 (some .boolean)] ++ wsX110 ++ wsX80 ++ (vx_atS RX11 71 "java/lang/IndexOutOfBoundsException" ["java/lang/RuntimeException", "java/lang/Exception"]).filter goodWord)
set_option maxRecDepth 20000 in
theorem ggX11_tell_X11_isTeller : GoodIn wsX11_tell wsX11_isTeller := goodIn_r _ [14] (by decide +kernel) (by decide +kernel)
set_option maxRecDepth 20000 in
theorem gX11_tell_X11_isTeller : GoodIn wsX11_tell (va_wsS RX11 63 yX11_isTeller wsX11_isTeller) := goodIn_app (goodIn_of _ (by decide +kernel)) ggX11_tell_X11_isTeller
set_option maxRecDepth 20000 in
theorem ggX11_tell_X5_read : GoodIn wsX11_tell wsX5_read := goodIn_r _ [19, 20, 21, 22, 23, 24, 25, 26, 27, 28, 29, 30, 31, 32, 33, 34, 35, 36, 37, 38, 39, 40, 41, 42, 43, 44, 45, 46, 47, 48, 49, 50, 51, 52, 53, 54, 55, 56, 57, 58, 59, 60, 61, 62, 63, 64, 65, 66, 67, 68, 69, 70, 71, 72, 73, 74, 75, 76, 77, 78, 79, 80, 81, 82, 83, 84, 85, 86, 87, 88, 89, 90, 91, 92, 93, 94, 95, 96, 97, 98, 99, 100, 101, 102, 103, 104, 105, 106, 107, 108, 109, 110, 111, 112, 113, 114, 115, 116, 117, 118, 119, 120, 121, 122, 123, 124, 125, 126, 127, 128, 129, 130, 131, 132, 133, 134, 18, 135, 136, 137, 138, 139, 140, 141, 142, 143, 144, 145, 146, 147, 148, 149, 150, 151, 152, 153, 154, 155, 156, 157, 158, 159, 160, 161, 162, 163, 164, 165, 166, 167, 168, 169, 170, 171, 172, 173, 174, 175, 176, 177, 178, 179, 180, 181, 182, 183, 184, 185, 186, 187, 188, 189, 190, 191, 192, 193, 194, 195, 196, 197, 198, 199, 200, 201, 202, 203, 204, 205, 206, 207, 208, 209, 210, 211, 212, 213, 214, 215, 216, 217, 218, 219, 220, 221, 222, 223, 224, 225, 226, 227, 228, 229, 230, 231, 232, 250, 251, 252, 253, 254, 255, 256, 257, 248, 249, 258, 259, 260, 261, 262, 263, 264, 265, 266, 267, 268, 269, 270, 271] (by decide +kernel) (by decide +kernel)
set_option maxRecDepth 20000 in
theorem gX11_tell_X5_read : GoodIn wsX11_tell (wsV RX11 74 RX5 yX5_read wsX5_read) := goodIn_app (goodIn_of _ (by decide +kernel)) ggX11_tell_X5_read
set_option maxRecDepth 20000 in
theorem ggX11_tell_X1_forget : GoodIn wsX11_tell wsX1_forget := goodIn_r _ [237, 238, 239, 240, 272, 273, 274, 275, 276, 277, 278, 279, 280, 281, 282, 283, 284] (by decide +kernel) (by decide +kernel)
set_option maxRecDepth 20000 in
theorem gX11_tell_X1_forget : GoodIn wsX11_tell (wsV RX11 81 RX1 yX1_forget wsX1_forget) := goodIn_app (goodIn_of _ (by decide +kernel)) ggX11_tell_X1_forget
set_option maxRecDepth 20000 in
theorem ggX11_saying_X11_isTeller : GoodIn wsX11_saying wsX11_isTeller := goodIn_r _ [17] (by decide +kernel) (by decide +kernel)
set_option maxRecDepth 20000 in
theorem gX11_saying_X11_isTeller : GoodIn wsX11_saying (va_wsS RX11 63 yX11_isTeller wsX11_isTeller) := goodIn_app (goodIn_of _ (by decide +kernel)) ggX11_saying_X11_isTeller
set_option maxRecDepth 20000 in
theorem ggX11_saying_X8_has : GoodIn wsX11_saying wsX8_has := goodIn_r _ [22, 23, 31, 32] (by decide +kernel) (by decide +kernel)
set_option maxRecDepth 20000 in
theorem gX11_saying_X8_has : GoodIn wsX11_saying (wsV RX11 93 RX8 yX8_has wsX8_has) := goodIn_app (goodIn_of _ (by decide +kernel)) ggX11_saying_X8_has
set_option maxRecDepth 20000 in
theorem ggX11_octet_X11_outLength : GoodIn wsX11_octet wsX11_outLength := goodIn_r _ [9, 3, 4, 10, 11, 12, 13, 14, 15, 16, 22, 23, 24, 25, 26, 27, 28, 29, 30, 31, 32] (by decide +kernel) (by decide +kernel)
set_option maxRecDepth 20000 in
theorem gX11_octet_X11_outLength : GoodIn wsX11_octet (wsV RX11 150 RX11 yX11_outLength wsX11_outLength) := goodIn_app (goodIn_of _ (by decide +kernel)) ggX11_octet_X11_outLength
set_option maxRecDepth 20000 in
theorem ggX11_octet_X3_letter : GoodIn wsX11_octet wsX3_letter := goodIn_r _ [20, 21, 29, 30, 31, 32] (by decide +kernel) (by decide +kernel)
set_option maxRecDepth 20000 in
theorem gX11_octet_X3_letter : GoodIn wsX11_octet (wsV RX11 155 RX3 yX3_letter wsX3_letter) := goodIn_app (goodIn_of _ (by decide +kernel)) ggX11_octet_X3_letter
set_option maxRecDepth 20000 in
theorem ggX11_between_X3_has : GoodIn wsX11_between wsX3_has := goodIn_r _ [9, 10, 123, 124, 125, 126] (by decide +kernel) (by decide +kernel)
set_option maxRecDepth 20000 in
theorem gX11_between_X3_has : GoodIn wsX11_between (wsV RX11 145 RX3 yX3_has wsX3_has) := goodIn_app (goodIn_of _ (by decide +kernel)) ggX11_between_X3_has
set_option maxRecDepth 20000 in
theorem ggX11_between_X1_hasWay : GoodIn wsX11_between wsX1_hasWay := goodIn_r _ [15, 16, 17, 18, 19, 20, 21, 14, 22, 23, 24, 25, 26, 27, 28, 29, 30, 31, 32, 33, 34, 35, 36, 37, 38, 39, 40, 41, 42, 43, 44, 45, 46, 47, 48, 49, 50, 51, 52, 53, 54, 55, 56, 57, 58, 59, 60, 61, 62, 63, 64, 65, 66, 67, 68, 69, 70, 71, 72, 73, 74, 75, 76, 77, 78, 79, 80, 81, 82, 83, 84, 85, 86, 87, 88, 89, 90, 91, 92, 93, 94, 95, 96, 97, 98, 99, 100, 101, 102, 103, 127, 128, 129, 130, 131, 132, 133, 134, 135, 136, 137, 138, 139, 123, 124, 125, 126, 140, 141, 142, 143, 144, 145, 146, 147, 148, 149, 150, 151, 152, 153, 154, 155] (by decide +kernel) (by decide +kernel)
set_option maxRecDepth 20000 in
theorem gX11_between_X1_hasWay : GoodIn wsX11_between (wsV RX11 159 RX1 yX1_hasWay wsX1_hasWay) := goodIn_app (goodIn_of _ (by decide +kernel)) ggX11_between_X1_hasWay
set_option maxRecDepth 20000 in
theorem ggX11_between_X4_lastOf : GoodIn wsX11_between wsX4_lastOf := goodIn_r _ [62] (by decide +kernel) (by decide +kernel)
set_option maxRecDepth 20000 in
theorem gX11_between_X4_lastOf : GoodIn wsX11_between (va_wsS RX11 174 yX4_lastOf wsX4_lastOf) := goodIn_app (goodIn_of _ (by decide +kernel)) ggX11_between_X4_lastOf
set_option maxRecDepth 20000 in
theorem ggX11_between_X4_firstOf : GoodIn wsX11_between wsX4_firstOf := goodIn_r _ [49] (by decide +kernel) (by decide +kernel)
set_option maxRecDepth 20000 in
theorem gX11_between_X4_firstOf : GoodIn wsX11_between (va_wsS RX11 165 yX4_firstOf wsX4_firstOf) := goodIn_app (goodIn_of _ (by decide +kernel)) ggX11_between_X4_firstOf
set_option maxRecDepth 20000 in
theorem ggX11_between_X1_greatest : GoodIn wsX11_between wsX1_greatest := goodIn_r _ [109, 110, 111, 112, 14, 113, 17, 23, 114, 24, 25, 26, 27, 28, 29, 30, 31, 32, 33, 34, 35, 36, 37, 38, 39, 40, 41, 42, 43, 44, 45, 46, 47, 48, 49, 50, 51, 52, 53, 54, 55, 56, 57, 58, 59, 60, 61, 62, 63, 64, 65, 66, 67, 68, 69, 70, 71, 72, 73, 74, 75, 76, 77, 78, 79, 80, 81, 82, 83, 84, 85, 86, 87, 88, 89, 90, 91, 92, 93, 94, 95, 96, 97, 98, 99, 100, 101, 102, 103, 127, 128, 129, 130, 131, 132, 133, 134, 135, 136, 137, 138, 139, 142, 143, 144, 123, 124, 125, 126, 140, 141, 145, 146, 147, 148, 149, 150, 151, 152, 153, 154, 155] (by decide +kernel) (by decide +kernel)
set_option maxRecDepth 20000 in
theorem gX11_between_X1_greatest : GoodIn wsX11_between (wsV RX11 171 RX1 yX1_greatest wsX1_greatest) := goodIn_app (goodIn_of _ (by decide +kernel)) ggX11_between_X1_greatest
set_option maxRecDepth 20000 in
theorem ggX11_between_X1_least : GoodIn wsX11_between wsX1_least := goodIn_r _ [113, 17, 23, 114, 24, 25, 26, 14, 27, 28, 29, 30, 31, 32, 33, 34, 35, 36, 37, 38, 39, 40, 41, 42, 43, 44, 45, 46, 47, 48, 49, 50, 51, 52, 53, 54, 55, 56, 57, 58, 59, 60, 61, 62, 63, 64, 65, 66, 67, 68, 69, 70, 71, 72, 73, 74, 75, 76, 77, 78, 79, 80, 81, 82, 83, 84, 85, 86, 87, 88, 89, 90, 91, 92, 93, 94, 95, 96, 97, 98, 99, 100, 101, 102, 103, 127, 128, 129, 130, 131, 132, 133, 134, 135, 136, 137, 138, 139, 142, 143, 144, 123, 124, 125, 126, 140, 141, 145, 146, 147, 148, 149, 150, 151, 152, 153, 154, 155] (by decide +kernel) (by decide +kernel)
set_option maxRecDepth 20000 in
theorem gX11_between_X1_least : GoodIn wsX11_between (wsV RX11 168 RX1 yX1_least wsX1_least) := goodIn_app (goodIn_of _ (by decide +kernel)) ggX11_between_X1_least
set_option maxRecDepth 20000 in
theorem ggX11_needless_X11_isTeller : GoodIn wsX11_needless wsX11_isTeller := goodIn_r _ [8] (by decide +kernel) (by decide +kernel)
set_option maxRecDepth 20000 in
theorem gX11_needless_X11_isTeller : GoodIn wsX11_needless (va_wsS RX11 63 yX11_isTeller wsX11_isTeller) := goodIn_app (goodIn_of _ (by decide +kernel)) ggX11_needless_X11_isTeller
set_option maxRecDepth 20000 in
theorem ggX11_needless_X8_has : GoodIn wsX11_needless wsX8_has := goodIn_r _ [13, 14, 129, 130] (by decide +kernel) (by decide +kernel)
set_option maxRecDepth 20000 in
theorem gX11_needless_X8_has : GoodIn wsX11_needless (wsV RX11 93 RX8 yX8_has wsX8_has) := goodIn_app (goodIn_of _ (by decide +kernel)) ggX11_needless_X8_has
set_option maxRecDepth 20000 in
theorem ggX11_needless_X1_hears : GoodIn wsX11_needless wsX1_hears := goodIn_r _ [19, 20, 131, 132, 133, 134, 135, 136, 137, 138, 139, 140, 141, 142, 143] (by decide +kernel) (by decide +kernel)
set_option maxRecDepth 20000 in
theorem gX11_needless_X1_hears : GoodIn wsX11_needless (wsV RX11 193 RX1 yX1_hears wsX1_hears) := goodIn_app (goodIn_of _ (by decide +kernel)) ggX11_needless_X1_hears
set_option maxRecDepth 20000 in
theorem ggX11_needless_X1_hasWay : GoodIn wsX11_needless wsX1_hasWay := goodIn_r _ [24, 25, 20, 26, 27, 28, 29, 18, 30, 31, 32, 33, 34, 35, 36, 37, 38, 39, 40, 41, 42, 43, 44, 45, 46, 47, 48, 49, 50, 51, 52, 53, 54, 55, 56, 57, 58, 59, 60, 61, 62, 63, 64, 65, 66, 67, 68, 69, 70, 71, 72, 73, 74, 75, 76, 77, 78, 79, 80, 81, 82, 83, 84, 85, 86, 87, 88, 89, 90, 91, 92, 93, 94, 95, 96, 97, 98, 99, 100, 101, 102, 103, 104, 105, 106, 107, 108, 109, 110, 111, 131, 132, 133, 134, 135, 136, 137, 138, 139, 140, 141, 142, 143, 144, 145, 146, 147, 129, 130, 148, 149, 150, 151, 152, 153, 154, 155, 156, 157, 158, 159, 160, 161] (by decide +kernel) (by decide +kernel)
set_option maxRecDepth 20000 in
theorem gX11_needless_X1_hasWay : GoodIn wsX11_needless (wsV RX11 159 RX1 yX1_hasWay wsX1_hasWay) := goodIn_app (goodIn_of _ (by decide +kernel)) ggX11_needless_X1_hasWay
set_option maxRecDepth 20000 in
theorem ggX11_needless_X1_followsFromOthers : GoodIn wsX11_needless wsX1_followsFromOthers := goodIn_r _ [115, 40, 20, 116, 117, 38, 41, 31, 118, 119, 120, 121, 71, 72, 18, 73, 32, 33, 34, 35, 36, 37, 39, 42, 43, 44, 45, 46, 47, 48, 49, 50, 51, 52, 53, 54, 55, 56, 57, 58, 59, 60, 61, 62, 63, 64, 65, 66, 67, 68, 69, 70, 74, 75, 76, 77, 78, 79, 80, 81, 82, 83, 84, 85, 86, 87, 88, 89, 90, 91, 92, 93, 94, 95, 96, 97, 98, 99, 100, 101, 102, 103, 104, 105, 106, 107, 108, 109, 110, 111, 131, 132, 133, 134, 135, 136, 137, 138, 139, 140, 141, 142, 143, 151, 152, 153, 154, 155, 129, 130, 148, 149, 150, 144, 145, 146, 147, 156, 157, 158, 159, 160, 161] (by decide +kernel) (by decide +kernel)
set_option maxRecDepth 20000 in
theorem gX11_needless_X1_followsFromOthers : GoodIn wsX11_needless (wsV RX11 196 RX1 yX1_followsFromOthers wsX1_followsFromOthers) := goodIn_app (goodIn_of _ (by decide +kernel)) ggX11_needless_X1_followsFromOthers
set_option maxRecDepth 20000 in
theorem ggX11_sayings_X11_isTeller : GoodIn wsX11_sayings wsX11_isTeller := goodIn_r _ [8] (by decide +kernel) (by decide +kernel)
set_option maxRecDepth 20000 in
theorem gX11_sayings_X11_isTeller : GoodIn wsX11_sayings (va_wsS RX11 63 yX11_isTeller wsX11_isTeller) := goodIn_app (goodIn_of _ (by decide +kernel)) ggX11_sayings_X11_isTeller
theorem tst_1 : (vx_atS RX11 71 "java/lang/IndexOutOfBoundsException" ["java/lang/RuntimeException", "java/lang/Exception"]).filter (fun w => !goodWord w) = [.declares (Bundle.initS "java/lang/RuntimeException"), .declares (Bundle.initS "java/lang/Exception"), .declares (Bundle.initS Bundle.tN), .castable "java/lang/IndexOutOfBoundsException" "java/lang/IndexOutOfBoundsException"] := by decide +kernel
theorem tst_2 : (vx_atS RX11 71 "java/lang/IndexOutOfBoundsException" ["java/lang/RuntimeException", "java/lang/Exception"]).all (fun w => vx_ot w) = true := by decide +kernel
