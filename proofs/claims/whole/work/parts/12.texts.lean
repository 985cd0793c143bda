/-! Where the premises on texts stand: written by wip/tool/start.py. -/
def m_NN : Cond := Jvm.Cond.and given_1 narrow_1
def m_sxp : List Nat := [1025, 1049, 1071, 1090, 991, 277, 286, 999, 535, 1009, 1017, 294, 313, 330, 342, 516, 303, 361, 367, 373, 379, 385, 393, 406, 418, 436, 447, 460, 472, 490, 552, 810, 821, 827, 836, 847, 854, 863, 871, 881, 901, 907, 927, 952, 979, 659, 665, 684, 700, 715, 728, 753, 768, 791, 1140, 1362, 1203, 1216, 1235, 1247, 1261, 1275, 1288, 1307, 1334, 1341, 1348, 1355, 1182, 1371, 1108, 1116, 1123, 1130, 1151, 1169, 1392, 1401, 1419, 1430, 1637, 1439, 1447, 1468, 1486, 1503, 1518, 1545, 1562, 1587, 1608, 1620, 1627, 1642, 1657, 1674, 1690, 1716, 1742, 1785, 1811, 1816, 1821, 1849, 629, 556, 594, 608, 624, 587]
def m_stv (own : String) (k : Nat) : Term := .field (.string own k) "java/lang/String" "value" "[B"
def m_scs (own : String) (k : Nat) (bs : List Int32) : List Cond := [.exactly (.string own k) "java/lang/String", .eq (.field (.string own k) "java/lang/String" "coder" "B") (.int 0), .arrayOf (m_stv own k) .byte, .eq (.length (m_stv own k)) (.int (Int32.ofNat bs.length))] ++ bs.mapIdx (fun j b => .eq (.elem (m_stv own k) (.int (Int32.ofNat j))) (.int b))
theorem m_scs_0 : ∀ i, i < 12 → ((flatC m_NN).drop (m_sxp.getD (0 + i) 0)).take (m_scs (m_sxl.getD (0 + i) ("", 0, "", 0)).1 (m_sxl.getD (0 + i) ("", 0, "", 0)).2.1 (m_xbl.getD (0 + i) [])).length = m_scs (m_sxl.getD (0 + i) ("", 0, "", 0)).1 (m_sxl.getD (0 + i) ("", 0, "", 0)).2.1 (m_xbl.getD (0 + i) []) := by decide +kernel
theorem m_scs_1 : ∀ i, i < 12 → ((flatC m_NN).drop (m_sxp.getD (12 + i) 0)).take (m_scs (m_sxl.getD (12 + i) ("", 0, "", 0)).1 (m_sxl.getD (12 + i) ("", 0, "", 0)).2.1 (m_xbl.getD (12 + i) [])).length = m_scs (m_sxl.getD (12 + i) ("", 0, "", 0)).1 (m_sxl.getD (12 + i) ("", 0, "", 0)).2.1 (m_xbl.getD (12 + i) []) := by decide +kernel
theorem m_scs_2 : ∀ i, i < 12 → ((flatC m_NN).drop (m_sxp.getD (24 + i) 0)).take (m_scs (m_sxl.getD (24 + i) ("", 0, "", 0)).1 (m_sxl.getD (24 + i) ("", 0, "", 0)).2.1 (m_xbl.getD (24 + i) [])).length = m_scs (m_sxl.getD (24 + i) ("", 0, "", 0)).1 (m_sxl.getD (24 + i) ("", 0, "", 0)).2.1 (m_xbl.getD (24 + i) []) := by decide +kernel
theorem m_scs_3 : ∀ i, i < 12 → ((flatC m_NN).drop (m_sxp.getD (36 + i) 0)).take (m_scs (m_sxl.getD (36 + i) ("", 0, "", 0)).1 (m_sxl.getD (36 + i) ("", 0, "", 0)).2.1 (m_xbl.getD (36 + i) [])).length = m_scs (m_sxl.getD (36 + i) ("", 0, "", 0)).1 (m_sxl.getD (36 + i) ("", 0, "", 0)).2.1 (m_xbl.getD (36 + i) []) := by decide +kernel
theorem m_scs_4 : ∀ i, i < 12 → ((flatC m_NN).drop (m_sxp.getD (48 + i) 0)).take (m_scs (m_sxl.getD (48 + i) ("", 0, "", 0)).1 (m_sxl.getD (48 + i) ("", 0, "", 0)).2.1 (m_xbl.getD (48 + i) [])).length = m_scs (m_sxl.getD (48 + i) ("", 0, "", 0)).1 (m_sxl.getD (48 + i) ("", 0, "", 0)).2.1 (m_xbl.getD (48 + i) []) := by decide +kernel
theorem m_scs_5 : ∀ i, i < 12 → ((flatC m_NN).drop (m_sxp.getD (60 + i) 0)).take (m_scs (m_sxl.getD (60 + i) ("", 0, "", 0)).1 (m_sxl.getD (60 + i) ("", 0, "", 0)).2.1 (m_xbl.getD (60 + i) [])).length = m_scs (m_sxl.getD (60 + i) ("", 0, "", 0)).1 (m_sxl.getD (60 + i) ("", 0, "", 0)).2.1 (m_xbl.getD (60 + i) []) := by decide +kernel
theorem m_scs_6 : ∀ i, i < 12 → ((flatC m_NN).drop (m_sxp.getD (72 + i) 0)).take (m_scs (m_sxl.getD (72 + i) ("", 0, "", 0)).1 (m_sxl.getD (72 + i) ("", 0, "", 0)).2.1 (m_xbl.getD (72 + i) [])).length = m_scs (m_sxl.getD (72 + i) ("", 0, "", 0)).1 (m_sxl.getD (72 + i) ("", 0, "", 0)).2.1 (m_xbl.getD (72 + i) []) := by decide +kernel
theorem m_scs_7 : ∀ i, i < 12 → ((flatC m_NN).drop (m_sxp.getD (84 + i) 0)).take (m_scs (m_sxl.getD (84 + i) ("", 0, "", 0)).1 (m_sxl.getD (84 + i) ("", 0, "", 0)).2.1 (m_xbl.getD (84 + i) [])).length = m_scs (m_sxl.getD (84 + i) ("", 0, "", 0)).1 (m_sxl.getD (84 + i) ("", 0, "", 0)).2.1 (m_xbl.getD (84 + i) []) := by decide +kernel
theorem m_scs_8 : ∀ i, i < 12 → ((flatC m_NN).drop (m_sxp.getD (96 + i) 0)).take (m_scs (m_sxl.getD (96 + i) ("", 0, "", 0)).1 (m_sxl.getD (96 + i) ("", 0, "", 0)).2.1 (m_xbl.getD (96 + i) [])).length = m_scs (m_sxl.getD (96 + i) ("", 0, "", 0)).1 (m_sxl.getD (96 + i) ("", 0, "", 0)).2.1 (m_xbl.getD (96 + i) []) := by decide +kernel
theorem m_scs_9 : ∀ i, i < 2 → ((flatC m_NN).drop (m_sxp.getD (108 + i) 0)).take (m_scs (m_sxl.getD (108 + i) ("", 0, "", 0)).1 (m_sxl.getD (108 + i) ("", 0, "", 0)).2.1 (m_xbl.getD (108 + i) [])).length = m_scs (m_sxl.getD (108 + i) ("", 0, "", 0)).1 (m_sxl.getD (108 + i) ("", 0, "", 0)).2.1 (m_xbl.getD (108 + i) []) := by decide +kernel
theorem m_nn_e1 : (Cond.arrayOf (Term.static "java/util/ArrayList" "DEFAULTCAPACITY_EMPTY_ELEMENTDATA" "[Ljava/lang/Object;") (FieldType.object "java/lang/Object")) ∈ flatC m_NN := List.mem_of_getElem? (i := 5) (by decide +kernel)
theorem m_nn_e2 : (Cond.eq (Term.length (Term.static "java/util/ArrayList" "DEFAULTCAPACITY_EMPTY_ELEMENTDATA" "[Ljava/lang/Object;")) (Term.int 0)) ∈ flatC m_NN := List.mem_of_getElem? (i := 7) (by decide +kernel)
theorem m_nn_c1 : (Cond.eq (Term.static "java/lang/String" "COMPACT_STRINGS" "Z") (Term.int 1)) ∈ flatC m_NN := List.mem_of_getElem? (i := 8) (by decide +kernel)
theorem m_nn_p1 : (Cond.isRef (Term.static "jdk/internal/util/Preconditions" "SIOOBE_FORMATTER" "Ljava/util/function/BiFunction;")) ∈ flatC m_NN := List.mem_of_getElem? (i := 9) (by decide +kernel)
theorem m_nn_u1 : (Cond.eq (Term.static "java/lang/StringUTF16" "$assertionsDisabled" "Z") (Term.int 1)) ∈ flatC m_NN := List.mem_of_getElem? (i := 10) (by decide +kernel)
theorem m_nn_u2 : (Cond.eq (Term.static "java/lang/StringUTF16" "HI_BYTE_SHIFT" "I") (Term.int 0)) ∈ flatC m_NN := List.mem_of_getElem? (i := 11) (by decide +kernel)
theorem m_nn_u3 : (Cond.eq (Term.static "java/lang/StringUTF16" "LO_BYTE_SHIFT" "I") (Term.int 8)) ∈ flatC m_NN := List.mem_of_getElem? (i := 12) (by decide +kernel)
theorem m_nn_mi : (Cond.isRef (Term.mirror "[Ljava/lang/Object;")) ∈ flatC m_NN := List.mem_of_getElem? (i := 276) (by decide +kernel)
theorem m_nn_t1 : (Cond.isRef (Term.static "java/lang/Throwable" "UNASSIGNED_STACK" "[Ljava/lang/StackTraceElement;")) ∈ flatC m_NN := List.mem_of_getElem? (i := 219) (by decide +kernel)
theorem m_nn_t2 : (Cond.isRef (Term.static "java/lang/Throwable" "SUPPRESSED_SENTINEL" "Ljava/util/List;")) ∈ flatC m_NN := List.mem_of_getElem? (i := 220) (by decide +kernel)
theorem m_ls_DEFAUL : (Cond.laysStatic "java/util/ArrayList" "DEFAULTCAPACITY_EMPTY_ELEMENTDATA" "[Ljava/lang/Object;") ∈ lw_tbl := m_in1 (List.mem_of_getElem? (i := 119) rfl)
theorem m_ls_COMPAC : (Cond.laysStatic "java/lang/String" "COMPACT_STRINGS" "Z") ∈ lw_tbl := m_in1 (List.mem_of_getElem? (i := 142) rfl)
theorem m_ls_SIOOBE : (Cond.laysStatic "jdk/internal/util/Preconditions" "SIOOBE_FORMATTER" "Ljava/util/function/BiFunction;") ∈ lw_tbl := m_in3 (List.mem_of_getElem? (i := 14) rfl)
theorem m_ls_assert : (Cond.laysStatic "java/lang/StringUTF16" "$assertionsDisabled" "Z") ∈ lw_tbl := m_in3 (List.mem_of_getElem? (i := 32) rfl)
theorem m_ls_HI_BYT : (Cond.laysStatic "java/lang/StringUTF16" "HI_BYTE_SHIFT" "I") ∈ lw_tbl := m_in3 (List.mem_of_getElem? (i := 34) rfl)
theorem m_ls_LO_BYT : (Cond.laysStatic "java/lang/StringUTF16" "LO_BYTE_SHIFT" "I") ∈ lw_tbl := m_in3 (List.mem_of_getElem? (i := 36) rfl)
theorem m_in_ArrayList : Cond.initialized "java/util/ArrayList" ∈ m_gt := m_gi1 5 rfl rfl
theorem m_in_String : Cond.initialized "java/lang/String" ∈ m_gt := m_gi1 8 rfl rfl
theorem m_in_Preconditions : Cond.initialized "jdk/internal/util/Preconditions" ∈ m_gt := m_gi1 15 rfl rfl
theorem m_in_StringUTF16 : Cond.initialized "java/lang/StringUTF16" ∈ m_gt := m_gi1 9 rfl rfl
theorem m_ao_0 : (Cond.arrayOver (FieldType.object "EdgeHouse$Told")) ∈ lw_tbl := m_in1 (List.mem_of_getElem? (i := 103) rfl)
theorem m_ao_1 : (Cond.arrayOver (FieldType.object "EdgeHouse$Node")) ∈ lw_tbl := m_in1 (List.mem_of_getElem? (i := 105) rfl)
theorem m_ao_2 : (Cond.arrayOver (FieldType.object "java/lang/Object")) ∈ lw_tbl := m_in4 (List.mem_of_getElem? (i := 38) rfl)
theorem m_ist_0 : Cond.instantiable R_0 15 ∈ m_gt := m_gi1 37 rfl rfl
theorem m_ist_1 : Cond.instantiable R_1 16 ∈ m_gt := m_gi1 45 rfl rfl
theorem m_ist_2 : Cond.instantiable R_2 3 ∈ m_gt := m_gi1 107 rfl rfl
theorem m_ist_3 : Cond.instantiable R_3 4 ∈ m_gt := m_gi1 133 rfl rfl
theorem m_ist_4 : Cond.instantiable R_4 11 ∈ m_gt := m_gi1 165 rfl rfl
theorem m_ist_5 : Cond.instantiable R_5 3 ∈ m_gt := m_gi1 171 rfl rfl
theorem m_ist_6 : Cond.instantiable R_6 19 ∈ m_gt := m_gi2 80 rfl rfl
theorem m_ist_7 : Cond.instantiable R_7 8 ∈ m_gt := m_gi2 179 rfl rfl
theorem m_ist_8 : Cond.instantiable R_8 14 ∈ m_gt := m_gi3 166 rfl rfl
theorem m_ist_9 : Cond.instantiable R_9 19 ∈ m_gt := m_gi4 195 rfl rfl
theorem m_ist_10 : Cond.instantiable R_10 14 ∈ m_gt := m_gi5 70 rfl rfl
theorem m_ist_11 : Cond.instantiable R_11 9 ∈ m_gt := m_gi5 220 rfl rfl
theorem m_ist_12 : Cond.instantiable R_12 4 ∈ m_gt := m_gi7 54 rfl rfl
theorem m_ist_13 : Cond.instantiable R_13 10 ∈ m_gt := m_gi8 93 rfl rfl
theorem m_ist_14 : Cond.instantiable R_14 92 ∈ m_gt := m_gi8 222 rfl rfl
theorem m_sr_0 : (Cond.stringRef "EdgeHouse" 86 "the tape is no thing") ∈ lw_tbl := m_in8 (List.mem_of_getElem? (i := 161) rfl)
theorem m_sr_1 : (Cond.stringRef "EdgeHouse" 172 "ticks are 1 to 100") ∈ lw_tbl := m_in8 (List.mem_of_getElem? (i := 170) rfl)
theorem m_sr_2 : (Cond.stringRef "EdgeHouse" 222 "no such request") ∈ lw_tbl := m_in8 (List.mem_of_getElem? (i := 197) rfl)
theorem m_sr_3 : (Cond.stringRef "EdgeHouse" 227 "what is 0 to 8") ∈ lw_tbl := m_in8 (List.mem_of_getElem? (i := 213) rfl)
theorem m_sr_4 : (Cond.stringRef "EdgeHouse$Reader" 41 "PUT ") ∈ lw_tbl := m_in8 (List.mem_of_getElem? (i := 148) rfl)
theorem m_sr_5 : (Cond.stringRef "EdgeHouse$Reader" 91 "HEAD ") ∈ lw_tbl := m_in2 (List.mem_of_getElem? (i := 224) rfl)
theorem m_sr_6 : (Cond.stringRef "EdgeHouse$Reader" 93 "GET ") ∈ lw_tbl := m_in2 (List.mem_of_getElem? (i := 225) rfl)
theorem m_sr_7 : (Cond.stringRef "EdgeHouse$Reader" 157 "length") ∈ lw_tbl := m_in8 (List.mem_of_getElem? (i := 153) rfl)
theorem m_sr_8 : (Cond.stringRef "EdgeHouse$Reader" 162 "cache-control") ∈ lw_tbl := m_in3 (List.mem_of_getElem? (i := 141) rfl)
theorem m_sr_9 : (Cond.stringRef "EdgeHouse$Reader" 167 "vary") ∈ lw_tbl := m_in8 (List.mem_of_getElem? (i := 154) rfl)
theorem m_sr_10 : (Cond.stringRef "EdgeHouse$Reader" 169 "keys") ∈ lw_tbl := m_in8 (List.mem_of_getElem? (i := 155) rfl)
theorem m_sr_11 : (Cond.stringRef "EdgeHouse$Reader" 177 "range") ∈ lw_tbl := m_in3 (List.mem_of_getElem? (i := 76) rfl)
theorem m_sr_12 : (Cond.stringRef "EdgeHouse$Reader" 182 "if-none-match") ∈ lw_tbl := m_in3 (List.mem_of_getElem? (i := 87) rfl)
theorem m_sr_13 : (Cond.stringRef "EdgeHouse$Reader" 187 "if-range") ∈ lw_tbl := m_in3 (List.mem_of_getElem? (i := 96) rfl)
theorem m_sr_14 : (Cond.stringRef "EdgeHouse$Reader" 193 "accept-language") ∈ lw_tbl := m_in3 (List.mem_of_getElem? (i := 97) rfl)
theorem m_sr_15 : (Cond.stringRef "EdgeHouse$Reader" 195 "accept-encoding") ∈ lw_tbl := m_in3 (List.mem_of_getElem? (i := 140) rfl)
theorem m_sr_16 : (Cond.stringRef "EdgeHouse$Reader" 199 "bytes=") ∈ lw_tbl := m_in3 (List.mem_of_getElem? (i := 85) rfl)
theorem m_sr_17 : (Cond.stringRef "EdgeHouse$Reader" 240 "en") ∈ lw_tbl := m_in3 (List.mem_of_getElem? (i := 110) rfl)
theorem m_sr_18 : (Cond.stringRef "EdgeHouse$Reader" 242 "de") ∈ lw_tbl := m_in3 (List.mem_of_getElem? (i := 111) rfl)
theorem m_sr_19 : (Cond.stringRef "EdgeHouse$Reader" 244 "fr") ∈ lw_tbl := m_in3 (List.mem_of_getElem? (i := 112) rfl)
theorem m_sr_20 : (Cond.stringRef "EdgeHouse$Reader" 246 "it") ∈ lw_tbl := m_in3 (List.mem_of_getElem? (i := 113) rfl)
theorem m_sr_21 : (Cond.stringRef "EdgeHouse$Reader" 248 "gzip") ∈ lw_tbl := m_in3 (List.mem_of_getElem? (i := 118) rfl)
theorem m_sr_22 : (Cond.stringRef "EdgeHouse$Reader" 253 "max-stale") ∈ lw_tbl := m_in3 (List.mem_of_getElem? (i := 123) rfl)
theorem m_sr_23 : (Cond.stringRef "EdgeHouse$Reader" 259 "no-cache") ∈ lw_tbl := m_in3 (List.mem_of_getElem? (i := 125) rfl)
theorem m_sr_24 : (Cond.stringRef "EdgeHouse$Reader" 264 "only-if-cached") ∈ lw_tbl := m_in3 (List.mem_of_getElem? (i := 126) rfl)
theorem m_sr_25 : (Cond.stringRef "EdgeHouse$Reader" 269 "max-age") ∈ lw_tbl := m_in3 (List.mem_of_getElem? (i := 127) rfl)
theorem m_sr_26 : (Cond.stringRef "EdgeHouse$Reader" 274 "min-fresh") ∈ lw_tbl := m_in3 (List.mem_of_getElem? (i := 128) rfl)
theorem m_sr_27 : (Cond.stringRef "EdgeHouse$Reader" 279 "no-store") ∈ lw_tbl := m_in3 (List.mem_of_getElem? (i := 133) rfl)
theorem m_sr_28 : (Cond.stringRef "EdgeHouse$Reader" 288 "stale-if-error") ∈ lw_tbl := m_in3 (List.mem_of_getElem? (i := 134) rfl)
theorem m_sr_29 : (Cond.stringRef "EdgeHouse$Reader" 293 "stale-while-revalidate") ∈ lw_tbl := m_in3 (List.mem_of_getElem? (i := 135) rfl)
theorem m_sr_30 : (Cond.stringRef "EdgeHouse$Reply" 9 "") ∈ lw_tbl := m_in3 (List.mem_of_getElem? (i := 171) rfl)
theorem m_sr_31 : (Cond.stringRef "EdgeHouse$Reply" 122 "etag: \"") ∈ lw_tbl := m_in8 (List.mem_of_getElem? (i := 22) rfl)
theorem m_sr_32 : (Cond.stringRef "EdgeHouse$Reply" 124 "\"\n") ∈ lw_tbl := m_in8 (List.mem_of_getElem? (i := 23) rfl)
theorem m_sr_33 : (Cond.stringRef "EdgeHouse$Reply" 126 "age: ") ∈ lw_tbl := m_in8 (List.mem_of_getElem? (i := 24) rfl)
theorem m_sr_34 : (Cond.stringRef "EdgeHouse$Reply" 128 "cache: ") ∈ lw_tbl := m_in8 (List.mem_of_getElem? (i := 25) rfl)
theorem m_sr_35 : (Cond.stringRef "EdgeHouse$Reply" 130 "hit") ∈ lw_tbl := m_in8 (List.mem_of_getElem? (i := 26) rfl)
theorem m_sr_36 : (Cond.stringRef "EdgeHouse$Reply" 132 "stale") ∈ lw_tbl := m_in8 (List.mem_of_getElem? (i := 27) rfl)
theorem m_sr_37 : (Cond.stringRef "EdgeHouse$Reply" 134 "miss") ∈ lw_tbl := m_in8 (List.mem_of_getElem? (i := 28) rfl)
theorem m_sr_38 : (Cond.stringRef "EdgeHouse$Reply" 136 "vary: ") ∈ lw_tbl := m_in8 (List.mem_of_getElem? (i := 29) rfl)
theorem m_sr_39 : (Cond.stringRef "EdgeHouse$Reply" 138 "accept-language") ∈ lw_tbl := m_in8 (List.mem_of_getElem? (i := 30) rfl)
theorem m_sr_40 : (Cond.stringRef "EdgeHouse$Reply" 140 ", ") ∈ lw_tbl := m_in8 (List.mem_of_getElem? (i := 31) rfl)
theorem m_sr_41 : (Cond.stringRef "EdgeHouse$Reply" 142 "accept-encoding") ∈ lw_tbl := m_in8 (List.mem_of_getElem? (i := 32) rfl)
theorem m_sr_42 : (Cond.stringRef "EdgeHouse$Reply" 144 "content-range: bytes ") ∈ lw_tbl := m_in8 (List.mem_of_getElem? (i := 33) rfl)
theorem m_sr_43 : (Cond.stringRef "EdgeHouse$Reply" 146 "content-range: bytes */") ∈ lw_tbl := m_in8 (List.mem_of_getElem? (i := 34) rfl)
theorem m_sr_44 : (Cond.stringRef "EdgeHouse$Reply" 148 "length: ") ∈ lw_tbl := m_in8 (List.mem_of_getElem? (i := 35) rfl)
theorem m_sr_45 : (Cond.stringRef "EdgeHouse$Reply" 150 "OK") ∈ lw_tbl := m_in8 (List.mem_of_getElem? (i := 8) rfl)
theorem m_sr_46 : (Cond.stringRef "EdgeHouse$Reply" 152 "Partial Content") ∈ lw_tbl := m_in8 (List.mem_of_getElem? (i := 9) rfl)
theorem m_sr_47 : (Cond.stringRef "EdgeHouse$Reply" 154 "Not Modified") ∈ lw_tbl := m_in8 (List.mem_of_getElem? (i := 10) rfl)
theorem m_sr_48 : (Cond.stringRef "EdgeHouse$Reply" 156 "Bad Request") ∈ lw_tbl := m_in8 (List.mem_of_getElem? (i := 11) rfl)
theorem m_sr_49 : (Cond.stringRef "EdgeHouse$Reply" 158 "Not Found") ∈ lw_tbl := m_in8 (List.mem_of_getElem? (i := 12) rfl)
theorem m_sr_50 : (Cond.stringRef "EdgeHouse$Reply" 160 "Range Not Satisfiable") ∈ lw_tbl := m_in8 (List.mem_of_getElem? (i := 13) rfl)
theorem m_sr_51 : (Cond.stringRef "EdgeHouse$Reply" 162 "Bad Gateway") ∈ lw_tbl := m_in8 (List.mem_of_getElem? (i := 14) rfl)
theorem m_sr_52 : (Cond.stringRef "EdgeHouse$Reply" 164 "Service Unavailable") ∈ lw_tbl := m_in8 (List.mem_of_getElem? (i := 15) rfl)
theorem m_sr_53 : (Cond.stringRef "EdgeHouse$Reply" 166 "Gateway Timeout") ∈ lw_tbl := m_in8 (List.mem_of_getElem? (i := 16) rfl)
theorem m_sr_54 : (Cond.stringRef "EdgeHouseModel" 216 "bytes=") ∈ lw_tbl := m_in10 (List.mem_of_getElem? (i := 99) rfl)
theorem m_sr_55 : (Cond.stringRef "EdgeHouseModel" 256 "gzip") ∈ lw_tbl := m_in10 (List.mem_of_getElem? (i := 145) rfl)
theorem m_sr_56 : (Cond.stringRef "EdgeHouseModel" 264 "no-cache") ∈ lw_tbl := m_in10 (List.mem_of_getElem? (i := 120) rfl)
theorem m_sr_57 : (Cond.stringRef "EdgeHouseModel" 269 "only-if-cached") ∈ lw_tbl := m_in10 (List.mem_of_getElem? (i := 125) rfl)
theorem m_sr_58 : (Cond.stringRef "EdgeHouseModel" 274 "max-age") ∈ lw_tbl := m_in10 (List.mem_of_getElem? (i := 126) rfl)
theorem m_sr_59 : (Cond.stringRef "EdgeHouseModel" 279 "max-stale") ∈ lw_tbl := m_in10 (List.mem_of_getElem? (i := 127) rfl)
theorem m_sr_60 : (Cond.stringRef "EdgeHouseModel" 285 "min-fresh") ∈ lw_tbl := m_in10 (List.mem_of_getElem? (i := 129) rfl)
theorem m_sr_61 : (Cond.stringRef "EdgeHouseModel" 290 "no-store") ∈ lw_tbl := m_in10 (List.mem_of_getElem? (i := 134) rfl)
theorem m_sr_62 : (Cond.stringRef "EdgeHouseModel" 301 "stale-if-error") ∈ lw_tbl := m_in10 (List.mem_of_getElem? (i := 135) rfl)
theorem m_sr_63 : (Cond.stringRef "EdgeHouseModel" 306 "stale-while-revalidate") ∈ lw_tbl := m_in10 (List.mem_of_getElem? (i := 136) rfl)
theorem m_sr_64 : (Cond.stringRef "EdgeHouseModel" 311 "en") ∈ lw_tbl := m_in10 (List.mem_of_getElem? (i := 141) rfl)
theorem m_sr_65 : (Cond.stringRef "EdgeHouseModel" 313 "de") ∈ lw_tbl := m_in10 (List.mem_of_getElem? (i := 142) rfl)
theorem m_sr_66 : (Cond.stringRef "EdgeHouseModel" 315 "fr") ∈ lw_tbl := m_in10 (List.mem_of_getElem? (i := 143) rfl)
theorem m_sr_67 : (Cond.stringRef "EdgeHouseModel" 317 "it") ∈ lw_tbl := m_in10 (List.mem_of_getElem? (i := 144) rfl)
theorem m_sr_68 : (Cond.stringRef "EdgeHouseModel" 322 "accept-language") ∈ lw_tbl := m_in10 (List.mem_of_getElem? (i := 111) rfl)
theorem m_sr_69 : (Cond.stringRef "EdgeHouseModel" 324 "accept-encoding") ∈ lw_tbl := m_in10 (List.mem_of_getElem? (i := 150) rfl)
theorem m_sr_70 : (Cond.stringRef "EdgeHouseModel" 337 "HEAD") ∈ lw_tbl := m_in10 (List.mem_of_getElem? (i := 47) rfl)
theorem m_sr_71 : (Cond.stringRef "EdgeHouseModel" 339 "GET") ∈ lw_tbl := m_in10 (List.mem_of_getElem? (i := 62) rfl)
theorem m_sr_72 : (Cond.stringRef "EdgeHouseModel" 341 "PUT") ∈ lw_tbl := m_in10 (List.mem_of_getElem? (i := 63) rfl)
theorem m_sr_73 : (Cond.stringRef "EdgeHouseModel" 354 "range") ∈ lw_tbl := m_in10 (List.mem_of_getElem? (i := 90) rfl)
theorem m_sr_74 : (Cond.stringRef "EdgeHouseModel" 361 "if-none-match") ∈ lw_tbl := m_in10 (List.mem_of_getElem? (i := 101) rfl)
theorem m_sr_75 : (Cond.stringRef "EdgeHouseModel" 366 "if-range") ∈ lw_tbl := m_in10 (List.mem_of_getElem? (i := 106) rfl)
theorem m_sr_76 : (Cond.stringRef "EdgeHouseModel" 375 "vary") ∈ lw_tbl := m_in10 (List.mem_of_getElem? (i := 151) rfl)
theorem m_sr_77 : (Cond.stringRef "EdgeHouseModel" 376 "cache-control") ∈ lw_tbl := m_in10 (List.mem_of_getElem? (i := 152) rfl)
theorem m_sr_78 : (Cond.stringRef "EdgeHouseModel" 378 "length") ∈ lw_tbl := m_in10 (List.mem_of_getElem? (i := 153) rfl)
theorem m_sr_79 : (Cond.stringRef "EdgeHouseModel" 379 "keys") ∈ lw_tbl := m_in10 (List.mem_of_getElem? (i := 154) rfl)
theorem m_sr_80 : (Cond.stringRef "EdgeHouseModel" 640 "\n") ∈ lw_tbl := m_in12 (List.mem_of_getElem? (i := 3) rfl)
theorem m_sr_81 : (Cond.stringRef "EdgeHouseModel" 642 " OK\n") ∈ lw_tbl := m_in11 (List.mem_of_getElem? (i := 223) rfl)
theorem m_sr_82 : (Cond.stringRef "EdgeHouseModel" 644 " Partial Content\n") ∈ lw_tbl := m_in11 (List.mem_of_getElem? (i := 228) rfl)
theorem m_sr_83 : (Cond.stringRef "EdgeHouseModel" 646 " Not Modified\n") ∈ lw_tbl := m_in11 (List.mem_of_getElem? (i := 229) rfl)
theorem m_sr_84 : (Cond.stringRef "EdgeHouseModel" 648 " Bad Request\n") ∈ lw_tbl := m_in11 (List.mem_of_getElem? (i := 230) rfl)
theorem m_sr_85 : (Cond.stringRef "EdgeHouseModel" 650 " Not Found\n") ∈ lw_tbl := m_in11 (List.mem_of_getElem? (i := 231) rfl)
theorem m_sr_86 : (Cond.stringRef "EdgeHouseModel" 652 " Range Not Satisfiable\n") ∈ lw_tbl := m_in11 (List.mem_of_getElem? (i := 232) rfl)
theorem m_sr_87 : (Cond.stringRef "EdgeHouseModel" 654 " Bad Gateway\n") ∈ lw_tbl := m_in11 (List.mem_of_getElem? (i := 233) rfl)
theorem m_sr_88 : (Cond.stringRef "EdgeHouseModel" 656 " Service Unavailable\n") ∈ lw_tbl := m_in11 (List.mem_of_getElem? (i := 234) rfl)
theorem m_sr_89 : (Cond.stringRef "EdgeHouseModel" 658 " Gateway Timeout\n") ∈ lw_tbl := m_in11 (List.mem_of_getElem? (i := 235) rfl)
theorem m_sr_90 : (Cond.stringRef "EdgeHouseModel" 666 "etag: \"") ∈ lw_tbl := m_in11 (List.mem_of_getElem? (i := 236) rfl)
theorem m_sr_91 : (Cond.stringRef "EdgeHouseModel" 668 "\"\n") ∈ lw_tbl := m_in11 (List.mem_of_getElem? (i := 237) rfl)
theorem m_sr_92 : (Cond.stringRef "EdgeHouseModel" 670 "age: ") ∈ lw_tbl := m_in11 (List.mem_of_getElem? (i := 238) rfl)
theorem m_sr_93 : (Cond.stringRef "EdgeHouseModel" 676 "cache: hit\n") ∈ lw_tbl := m_in12 (List.mem_of_getElem? (i := 4) rfl)
theorem m_sr_94 : (Cond.stringRef "EdgeHouseModel" 678 "cache: stale\n") ∈ lw_tbl := m_in12 (List.mem_of_getElem? (i := 5) rfl)
theorem m_sr_95 : (Cond.stringRef "EdgeHouseModel" 680 "cache: miss\n") ∈ lw_tbl := m_in12 (List.mem_of_getElem? (i := 6) rfl)
theorem m_sr_96 : (Cond.stringRef "EdgeHouseModel" 682 "vary: accept-language\n") ∈ lw_tbl := m_in12 (List.mem_of_getElem? (i := 7) rfl)
theorem m_sr_97 : (Cond.stringRef "EdgeHouseModel" 684 "vary: accept-encoding\n") ∈ lw_tbl := m_in12 (List.mem_of_getElem? (i := 8) rfl)
theorem m_sr_98 : (Cond.stringRef "EdgeHouseModel" 686 "vary: accept-language, accept-encoding\n") ∈ lw_tbl := m_in12 (List.mem_of_getElem? (i := 9) rfl)
theorem m_sr_99 : (Cond.stringRef "EdgeHouseModel" 688 "content-range: bytes ") ∈ lw_tbl := m_in12 (List.mem_of_getElem? (i := 10) rfl)
theorem m_sr_100 : (Cond.stringRef "EdgeHouseModel" 690 "-") ∈ lw_tbl := m_in12 (List.mem_of_getElem? (i := 11) rfl)
theorem m_sr_101 : (Cond.stringRef "EdgeHouseModel" 692 "/") ∈ lw_tbl := m_in12 (List.mem_of_getElem? (i := 12) rfl)
theorem m_sr_102 : (Cond.stringRef "EdgeHouseModel" 694 "content-range: bytes */") ∈ lw_tbl := m_in12 (List.mem_of_getElem? (i := 13) rfl)
theorem m_sr_103 : (Cond.stringRef "EdgeHouseModel" 696 "length: ") ∈ lw_tbl := m_in12 (List.mem_of_getElem? (i := 14) rfl)
theorem m_sr_104 : (Cond.stringRef "java/lang/ArrayIndexOutOfBoundsException" 13 "Array index out of range: ") ∈ lw_tbl := m_in7 (List.mem_of_getElem? (i := 210) rfl)
theorem m_sr_105 : (Cond.stringRef "java/lang/StringIndexOutOfBoundsException" 13 "String index out of range: ") ∈ lw_tbl := m_in6 (List.mem_of_getElem? (i := 177) rfl)
theorem m_sr_106 : (Cond.stringRef "java/util/Arrays" 48 "fromIndex(") ∈ lw_tbl := m_in7 (List.mem_of_getElem? (i := 200) rfl)
theorem m_sr_107 : (Cond.stringRef "java/util/Arrays" 57 ") > toIndex(") ∈ lw_tbl := m_in7 (List.mem_of_getElem? (i := 201) rfl)
theorem m_sr_108 : (Cond.stringRef "java/util/Arrays" 59 ")") ∈ lw_tbl := m_in7 (List.mem_of_getElem? (i := 202) rfl)
theorem m_sr_109 : (Cond.stringRef "java/util/Arrays" 337 " > ") ∈ lw_tbl := m_in7 (List.mem_of_getElem? (i := 131) rfl)
set_option maxRecDepth 20000 in
theorem m_sr : ∀ q ∈ m_sxl, Cond.stringRef q.1 q.2.1 q.2.2.1 ∈ lw_tbl := (List.forall_mem_cons.mpr ⟨m_sr_0, (List.forall_mem_cons.mpr ⟨m_sr_1, (List.forall_mem_cons.mpr ⟨m_sr_2, (List.forall_mem_cons.mpr ⟨m_sr_3, (List.forall_mem_cons.mpr ⟨m_sr_4, (List.forall_mem_cons.mpr ⟨m_sr_5, (List.forall_mem_cons.mpr ⟨m_sr_6, (List.forall_mem_cons.mpr ⟨m_sr_7, (List.forall_mem_cons.mpr ⟨m_sr_8, (List.forall_mem_cons.mpr ⟨m_sr_9, (List.forall_mem_cons.mpr ⟨m_sr_10, (List.forall_mem_cons.mpr ⟨m_sr_11, (List.forall_mem_cons.mpr ⟨m_sr_12, (List.forall_mem_cons.mpr ⟨m_sr_13, (List.forall_mem_cons.mpr ⟨m_sr_14, (List.forall_mem_cons.mpr ⟨m_sr_15, (List.forall_mem_cons.mpr ⟨m_sr_16, (List.forall_mem_cons.mpr ⟨m_sr_17, (List.forall_mem_cons.mpr ⟨m_sr_18, (List.forall_mem_cons.mpr ⟨m_sr_19, (List.forall_mem_cons.mpr ⟨m_sr_20, (List.forall_mem_cons.mpr ⟨m_sr_21, (List.forall_mem_cons.mpr ⟨m_sr_22, (List.forall_mem_cons.mpr ⟨m_sr_23, (List.forall_mem_cons.mpr ⟨m_sr_24, (List.forall_mem_cons.mpr ⟨m_sr_25, (List.forall_mem_cons.mpr ⟨m_sr_26, (List.forall_mem_cons.mpr ⟨m_sr_27, (List.forall_mem_cons.mpr ⟨m_sr_28, (List.forall_mem_cons.mpr ⟨m_sr_29, (List.forall_mem_cons.mpr ⟨m_sr_30, (List.forall_mem_cons.mpr ⟨m_sr_31, (List.forall_mem_cons.mpr ⟨m_sr_32, (List.forall_mem_cons.mpr ⟨m_sr_33, (List.forall_mem_cons.mpr ⟨m_sr_34, (List.forall_mem_cons.mpr ⟨m_sr_35, (List.forall_mem_cons.mpr ⟨m_sr_36, (List.forall_mem_cons.mpr ⟨m_sr_37, (List.forall_mem_cons.mpr ⟨m_sr_38, (List.forall_mem_cons.mpr ⟨m_sr_39, (List.forall_mem_cons.mpr ⟨m_sr_40, (List.forall_mem_cons.mpr ⟨m_sr_41, (List.forall_mem_cons.mpr ⟨m_sr_42, (List.forall_mem_cons.mpr ⟨m_sr_43, (List.forall_mem_cons.mpr ⟨m_sr_44, (List.forall_mem_cons.mpr ⟨m_sr_45, (List.forall_mem_cons.mpr ⟨m_sr_46, (List.forall_mem_cons.mpr ⟨m_sr_47, (List.forall_mem_cons.mpr ⟨m_sr_48, (List.forall_mem_cons.mpr ⟨m_sr_49, (List.forall_mem_cons.mpr ⟨m_sr_50, (List.forall_mem_cons.mpr ⟨m_sr_51, (List.forall_mem_cons.mpr ⟨m_sr_52, (List.forall_mem_cons.mpr ⟨m_sr_53, (List.forall_mem_cons.mpr ⟨m_sr_54, (List.forall_mem_cons.mpr ⟨m_sr_55, (List.forall_mem_cons.mpr ⟨m_sr_56, (List.forall_mem_cons.mpr ⟨m_sr_57, (List.forall_mem_cons.mpr ⟨m_sr_58, (List.forall_mem_cons.mpr ⟨m_sr_59, (List.forall_mem_cons.mpr ⟨m_sr_60, (List.forall_mem_cons.mpr ⟨m_sr_61, (List.forall_mem_cons.mpr ⟨m_sr_62, (List.forall_mem_cons.mpr ⟨m_sr_63, (List.forall_mem_cons.mpr ⟨m_sr_64, (List.forall_mem_cons.mpr ⟨m_sr_65, (List.forall_mem_cons.mpr ⟨m_sr_66, (List.forall_mem_cons.mpr ⟨m_sr_67, (List.forall_mem_cons.mpr ⟨m_sr_68, (List.forall_mem_cons.mpr ⟨m_sr_69, (List.forall_mem_cons.mpr ⟨m_sr_70, (List.forall_mem_cons.mpr ⟨m_sr_71, (List.forall_mem_cons.mpr ⟨m_sr_72, (List.forall_mem_cons.mpr ⟨m_sr_73, (List.forall_mem_cons.mpr ⟨m_sr_74, (List.forall_mem_cons.mpr ⟨m_sr_75, (List.forall_mem_cons.mpr ⟨m_sr_76, (List.forall_mem_cons.mpr ⟨m_sr_77, (List.forall_mem_cons.mpr ⟨m_sr_78, (List.forall_mem_cons.mpr ⟨m_sr_79, (List.forall_mem_cons.mpr ⟨m_sr_80, (List.forall_mem_cons.mpr ⟨m_sr_81, (List.forall_mem_cons.mpr ⟨m_sr_82, (List.forall_mem_cons.mpr ⟨m_sr_83, (List.forall_mem_cons.mpr ⟨m_sr_84, (List.forall_mem_cons.mpr ⟨m_sr_85, (List.forall_mem_cons.mpr ⟨m_sr_86, (List.forall_mem_cons.mpr ⟨m_sr_87, (List.forall_mem_cons.mpr ⟨m_sr_88, (List.forall_mem_cons.mpr ⟨m_sr_89, (List.forall_mem_cons.mpr ⟨m_sr_90, (List.forall_mem_cons.mpr ⟨m_sr_91, (List.forall_mem_cons.mpr ⟨m_sr_92, (List.forall_mem_cons.mpr ⟨m_sr_93, (List.forall_mem_cons.mpr ⟨m_sr_94, (List.forall_mem_cons.mpr ⟨m_sr_95, (List.forall_mem_cons.mpr ⟨m_sr_96, (List.forall_mem_cons.mpr ⟨m_sr_97, (List.forall_mem_cons.mpr ⟨m_sr_98, (List.forall_mem_cons.mpr ⟨m_sr_99, (List.forall_mem_cons.mpr ⟨m_sr_100, (List.forall_mem_cons.mpr ⟨m_sr_101, (List.forall_mem_cons.mpr ⟨m_sr_102, (List.forall_mem_cons.mpr ⟨m_sr_103, (List.forall_mem_cons.mpr ⟨m_sr_104, (List.forall_mem_cons.mpr ⟨m_sr_105, (List.forall_mem_cons.mpr ⟨m_sr_106, (List.forall_mem_cons.mpr ⟨m_sr_107, (List.forall_mem_cons.mpr ⟨m_sr_108, (List.forall_mem_cons.mpr ⟨m_sr_109, (fun _ h => absurd h List.not_mem_nil)⟩)⟩)⟩)⟩)⟩)⟩)⟩)⟩)⟩)⟩)⟩)⟩)⟩)⟩)⟩)⟩)⟩)⟩)⟩)⟩)⟩)⟩)⟩)⟩)⟩)⟩)⟩)⟩)⟩)⟩)⟩)⟩)⟩)⟩)⟩)⟩)⟩)⟩)⟩)⟩)⟩)⟩)⟩)⟩)⟩)⟩)⟩)⟩)⟩)⟩)⟩)⟩)⟩)⟩)⟩)⟩)⟩)⟩)⟩)⟩)⟩)⟩)⟩)⟩)⟩)⟩)⟩)⟩)⟩)⟩)⟩)⟩)⟩)⟩)⟩)⟩)⟩)⟩)⟩)⟩)⟩)⟩)⟩)⟩)⟩)⟩)⟩)⟩)⟩)⟩)⟩)⟩)⟩)⟩)⟩)⟩)⟩)⟩)⟩)⟩)⟩)⟩)⟩)⟩)⟩)⟩)⟩)⟩)⟩)⟩)
theorem m_ist : ∀ (ci : Nat) (r : vw_C), m_cl[ci]? = some r → Cond.instantiable r.1 r.2.2 ∈ m_gt := by
  intro ci r h
  have hl : ci < 15 := (List.getElem?_eq_some_iff.mp h).1
  match ci, hl, h with
  | 0, _, h => cases h; exact m_ist_0
  | 1, _, h => cases h; exact m_ist_1
  | 2, _, h => cases h; exact m_ist_2
  | 3, _, h => cases h; exact m_ist_3
  | 4, _, h => cases h; exact m_ist_4
  | 5, _, h => cases h; exact m_ist_5
  | 6, _, h => cases h; exact m_ist_6
  | 7, _, h => cases h; exact m_ist_7
  | 8, _, h => cases h; exact m_ist_8
  | 9, _, h => cases h; exact m_ist_9
  | 10, _, h => cases h; exact m_ist_10
  | 11, _, h => cases h; exact m_ist_11
  | 12, _, h => cases h; exact m_ist_12
  | 13, _, h => cases h; exact m_ist_13
  | 14, _, h => cases h; exact m_ist_14
theorem m_scs_all : ∀ i, i < m_sN → ((flatC m_NN).drop (m_sxp.getD i 0)).take (m_scs (m_sxl.getD i ("", 0, "", 0)).1 (m_sxl.getD i ("", 0, "", 0)).2.1 (m_xbl.getD i [])).length = m_scs (m_sxl.getD i ("", 0, "", 0)).1 (m_sxl.getD i ("", 0, "", 0)).2.1 (m_xbl.getD i []) := by
  intro i hi
  have hi : i < 110 := hi
  by_cases h0 : i < 12
  · have g := m_scs_0 (i - 0) (by omega)
    rw [show 0 + (i - 0) = i by omega] at g
    exact g
  by_cases h1 : i < 24
  · have g := m_scs_1 (i - 12) (by omega)
    rw [show 12 + (i - 12) = i by omega] at g
    exact g
  by_cases h2 : i < 36
  · have g := m_scs_2 (i - 24) (by omega)
    rw [show 24 + (i - 24) = i by omega] at g
    exact g
  by_cases h3 : i < 48
  · have g := m_scs_3 (i - 36) (by omega)
    rw [show 36 + (i - 36) = i by omega] at g
    exact g
  by_cases h4 : i < 60
  · have g := m_scs_4 (i - 48) (by omega)
    rw [show 48 + (i - 48) = i by omega] at g
    exact g
  by_cases h5 : i < 72
  · have g := m_scs_5 (i - 60) (by omega)
    rw [show 60 + (i - 60) = i by omega] at g
    exact g
  by_cases h6 : i < 84
  · have g := m_scs_6 (i - 72) (by omega)
    rw [show 72 + (i - 72) = i by omega] at g
    exact g
  by_cases h7 : i < 96
  · have g := m_scs_7 (i - 84) (by omega)
    rw [show 84 + (i - 84) = i by omega] at g
    exact g
  by_cases h8 : i < 108
  · have g := m_scs_8 (i - 96) (by omega)
    rw [show 96 + (i - 96) = i by omega] at g
    exact g
  by_cases h9 : i < 110
  · have g := m_scs_9 (i - 108) (by omega)
    rw [show 108 + (i - 108) = i by omega] at g
    exact g
  omega
theorem m_sxl_at : ∀ i, i < m_sN → ∃ q, m_sxl[i]? = some q ∧ q.2.2.2 = i + 1 := by decide +kernel
theorem m_sxl_of : ∀ q ∈ m_sxl, 1 ≤ q.2.2.2 ∧ q.2.2.2 ≤ m_sN ∧ m_sxl.getD (q.2.2.2 - 1) ("", 0, "", 0) = q := by decide +kernel
theorem m_xbl_sh : ∀ i, i < m_sN → (m_xbl.getD i []).length < 2 ^ 31 := by decide +kernel
