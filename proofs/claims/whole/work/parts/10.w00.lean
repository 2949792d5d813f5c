theorem k_Tape_25 : Cond.constant "PictureFile$Tape" 25 (-306674912) ∈ kw_Ts := (kw_m1 (i := 41) (by decide +kernel) (by decide +kernel))
def y_Tape_eightSteps : MethodName := ⟨"PictureFile$Tape", "eightSteps", "(I)I"⟩
theorem w_Tape_eightSteps : Cond.code y_Tape_eightSteps prog_10_method_2_code 3 (some .int) ∈ kw_Ts := (kw_m1 (i := 40) (by decide +kernel) (by decide +kernel))
def y_Arr_fill : MethodName := ⟨"java/util/Arrays", "fill", "([II)V"⟩
theorem w_Arr_fill : Cond.code y_Arr_fill prog_23_method_103_code 4 none ∈ kw_Ts := (kw_m1 (i := 188) (by decide +kernel) (by decide +kernel))
theorem fi_Codes_9 : kw_fi "PictureFile$Codes" 9 7 0 true := ⟨mmR_7, mmT_7, 5, rfl, rfl, by decide, mmI_7, mmY_7, mmN_7, rfl, (kw_m1 (i := 162) (by decide +kernel) (by decide +kernel))⟩
theorem in_Arr : Cond.initialized "java/util/Arrays" ∈ kw_Ts := (kw_m1 (i := 9) (by decide +kernel) (by decide +kernel))
theorem mi_Codes_19 : kw_mi "PictureFile$Codes" 19 y_Arr_fill prog_23_method_103_code 4 none 2 := ⟨(kw_m1 (i := 186) (by decide +kernel) (by decide +kernel)), w_Arr_fill, in_Arr, by decide +kernel, by decide +kernel, by decide +kernel⟩
theorem s_Arr_fill : Cond.static y_Arr_fill ∈ kw_Ts := (kw_m1 (i := 187) (by decide +kernel) (by decide +kernel))
theorem fi_Codes_25 : kw_fi "PictureFile$Codes" 25 7 3 false := ⟨mmR_7, mmT_7, 5, rfl, rfl, by decide, mmI_7, mmY_7, mmN_7, rfl, (kw_m1 (i := 167) (by decide +kernel) (by decide +kernel))⟩
theorem fi_Codes_29 : kw_fi "PictureFile$Codes" 29 7 4 false := ⟨mmR_7, mmT_7, 5, rfl, rfl, by decide, mmI_7, mmY_7, mmN_7, rfl, (kw_m1 (i := 169) (by decide +kernel) (by decide +kernel))⟩
theorem fi_Codes_13 : kw_fi "PictureFile$Codes" 13 7 1 true := ⟨mmR_7, mmT_7, 5, rfl, rfl, by decide, mmI_7, mmY_7, mmN_7, rfl, (kw_m1 (i := 164) (by decide +kernel) (by decide +kernel))⟩
theorem fi_Codes_16 : kw_fi "PictureFile$Codes" 16 7 2 true := ⟨mmR_7, mmT_7, 5, rfl, rfl, by decide, mmI_7, mmY_7, mmN_7, rfl, (kw_m1 (i := 166) (by decide +kernel) (by decide +kernel))⟩
def y_Codes_assign : MethodName := ⟨"PictureFile$Codes", "assign", "([III)V"⟩
theorem w_Codes_assign : Cond.code y_Codes_assign prog_2_method_2_code 6 none ∈ kw_Ts := (kw_m1 (i := 185) (by decide +kernel) (by decide +kernel))
theorem fi_Tape_14 : kw_fi "PictureFile$Tape" 14 1 1 false := ⟨mmR_1, mmT_1, 3, rfl, rfl, by decide, mmI_1, mmY_1, mmN_1, rfl, (kw_m1 (i := 46) (by decide +kernel) (by decide +kernel))⟩
theorem k_Tape_9 : Cond.constant "PictureFile$Tape" 9 65536 ∈ kw_Ts := (kw_m1 (i := 37) (by decide +kernel) (by decide +kernel))
theorem fi_Tape_10 : kw_fi "PictureFile$Tape" 10 1 0 true := ⟨mmR_1, mmT_1, 3, rfl, rfl, by decide, mmI_1, mmY_1, mmN_1, rfl, (kw_m1 (i := 42) (by decide +kernel) (by decide +kernel))⟩
def y_Tape_add : MethodName := ⟨"PictureFile$Tape", "add", "(I)V"⟩
theorem w_Tape_add : Cond.code y_Tape_add prog_10_method_3_code 2 none ∈ kw_Ts := (kw_m4 (i := 63) (by decide +kernel) (by decide +kernel))
theorem in_Tape : Cond.initialized "PictureFile$Tape" ∈ kw_Ts := (kw_m1 (i := 2) (by decide +kernel) (by decide +kernel))
theorem mi_Tape_26 : kw_mi "PictureFile$Tape" 26 y_Tape_add prog_10_method_3_code 2 none 1 := ⟨(kw_m4 (i := 60) (by decide +kernel) (by decide +kernel)), w_Tape_add, in_Tape, by decide +kernel, by decide +kernel, by decide +kernel⟩
theorem v_Tape_add : Cond.instanceMethod y_Tape_add ∈ kw_Ts ∧ Cond.selects y_Tape_add.cls y_Tape_add y_Tape_add ∈ kw_Ts := ⟨(kw_m4 (i := 61) (by decide +kernel) (by decide +kernel)), (kw_m4 (i := 62) (by decide +kernel) (by decide +kernel))⟩
def y_Tape_addPair : MethodName := ⟨"PictureFile$Tape", "addPair", "(I)V"⟩
theorem w_Tape_addPair : Cond.code y_Tape_addPair prog_10_method_4_code 2 none ∈ kw_Ts := (kw_m4 (i := 59) (by decide +kernel) (by decide +kernel))
theorem mi_Tape_30 : kw_mi "PictureFile$Tape" 30 y_Tape_addPair prog_10_method_4_code 2 none 1 := ⟨(kw_m4 (i := 56) (by decide +kernel) (by decide +kernel)), w_Tape_addPair, in_Tape, by decide +kernel, by decide +kernel, by decide +kernel⟩
theorem v_Tape_addPair : Cond.instanceMethod y_Tape_addPair ∈ kw_Ts ∧ Cond.selects y_Tape_addPair.cls y_Tape_addPair y_Tape_addPair ∈ kw_Ts := ⟨(kw_m4 (i := 57) (by decide +kernel) (by decide +kernel)), (kw_m4 (i := 58) (by decide +kernel) (by decide +kernel))⟩
def y_Tape_addNumber : MethodName := ⟨"PictureFile$Tape", "addNumber", "(I)V"⟩
theorem w_Tape_addNumber : Cond.code y_Tape_addNumber prog_10_method_5_code 2 none ∈ kw_Ts := (kw_m4 (i := 55) (by decide +kernel) (by decide +kernel))
theorem fi_PF_10 : kw_fi "PictureFile" 10 0 0 true := ⟨mmR_0, mmT_0, 9, rfl, rfl, by decide, mmI_0, mmY_0, mmN_0, rfl, (kw_m2 (i := 170) (by decide +kernel) (by decide +kernel))⟩
theorem fi_PF_76 : kw_fi "PictureFile" 76 1 1 false := ⟨mmR_1, mmT_1, 3, rfl, rfl, by decide, mmI_1, mmY_1, mmN_1, rfl, (kw_m1 (i := 47) (by decide +kernel) (by decide +kernel))⟩
theorem k_PF_80 : Cond.constant "PictureFile" 80 65516 ∈ kw_Ts := (kw_m3 (i := 227) (by decide +kernel) (by decide +kernel))
theorem mi_PF_84 : kw_mi "PictureFile" 84 y_Tape_addNumber prog_10_method_5_code 2 none 1 := ⟨(kw_m4 (i := 52) (by decide +kernel) (by decide +kernel)), w_Tape_addNumber, in_Tape, by decide +kernel, by decide +kernel, by decide +kernel⟩
theorem v_Tape_addNumber : Cond.instanceMethod y_Tape_addNumber ∈ kw_Ts ∧ Cond.selects y_Tape_addNumber.cls y_Tape_addNumber y_Tape_addNumber ∈ kw_Ts := ⟨(kw_m4 (i := 53) (by decide +kernel) (by decide +kernel)), (kw_m4 (i := 54) (by decide +kernel) (by decide +kernel))⟩
theorem in_UnsupportedOperationException : Cond.initialized "java/lang/UnsupportedOperationException" ∈ kw_Ts := (kw_m1 (i := 18) (by decide +kernel) (by decide +kernel))
theorem ti_PF_81_83 : kw_ti "PictureFile" 81 83 "java/lang/UnsupportedOperationException" ["java/lang/RuntimeException", "java/lang/Exception"] := ⟨by decide +kernel, by decide +kernel, (kw_m3 (i := 228) (by decide +kernel) (by decide +kernel)), in_UnsupportedOperationException, kw_tiw (by decide +kernel), by decide +kernel, (kw_m3 (i := 229) (by decide +kernel) (by decide +kernel))⟩
def y_PF_feed : MethodName := ⟨"PictureFile", "feed", "(IIIII)I"⟩
theorem w_PF_feed : Cond.code y_PF_feed prog_1_method_2_code 6 (some .int) ∈ kw_Ts := (kw_m3 (i := 226) (by decide +kernel) (by decide +kernel))
theorem in_IllegalArgumentException : Cond.initialized "java/lang/IllegalArgumentException" ∈ kw_Ts := (kw_m1 (i := 19) (by decide +kernel) (by decide +kernel))
theorem ti_PF_88_90 : kw_ti "PictureFile" 88 90 "java/lang/IllegalArgumentException" ["java/lang/RuntimeException", "java/lang/Exception"] := ⟨by decide +kernel, by decide +kernel, (kw_m4 (i := 72) (by decide +kernel) (by decide +kernel)), in_IllegalArgumentException, kw_tiw (by decide +kernel), by decide +kernel, (kw_m4 (i := 73) (by decide +kernel) (by decide +kernel))⟩
def y_PF_end : MethodName := ⟨"PictureFile", "end", "(I)V"⟩
theorem w_PF_end : Cond.code y_PF_end prog_1_method_3_code 2 none ∈ kw_Ts := (kw_m4 (i := 71) (by decide +kernel) (by decide +kernel))
theorem fi_Fault_9 : kw_fi "PictureFile$Fault" 9 2 0 false := ⟨mmR_2, mmT_2, 2, rfl, rfl, by decide, mmI_2, mmY_2, mmN_2, rfl, (kw_m1 (i := 65) (by decide +kernel) (by decide +kernel))⟩
theorem fi_Fault_15 : kw_fi "PictureFile$Fault" 15 2 1 false := ⟨mmR_2, mmT_2, 2, rfl, rfl, by decide, mmI_2, mmY_2, mmN_2, rfl, (kw_m1 (i := 68) (by decide +kernel) (by decide +kernel))⟩
def y_Fault_clear : MethodName := ⟨"PictureFile$Fault", "clear", "()V"⟩
theorem w_Fault_clear : Cond.code y_Fault_clear prog_3_method_2_code 1 none ∈ kw_Ts := (kw_m2 (i := 205) (by decide +kernel) (by decide +kernel))
theorem fi_PackedBits_26 : kw_fi "PictureFile$PackedBits" 26 4 3 false := ⟨mmR_4, mmT_4, 6, rfl, rfl, by decide, mmI_4, mmY_4, mmN_4, rfl, (kw_m1 (i := 102) (by decide +kernel) (by decide +kernel))⟩
theorem fi_PackedBits_30 : kw_fi "PictureFile$PackedBits" 30 4 4 false := ⟨mmR_4, mmT_4, 6, rfl, rfl, by decide, mmI_4, mmY_4, mmN_4, rfl, (kw_m1 (i := 103) (by decide +kernel) (by decide +kernel))⟩
theorem fi_PackedBits_33 : kw_fi "PictureFile$PackedBits" 33 4 5 false := ⟨mmR_4, mmT_4, 6, rfl, rfl, by decide, mmI_4, mmY_4, mmN_4, rfl, (kw_m1 (i := 104) (by decide +kernel) (by decide +kernel))⟩
def y_PackedBits_clear : MethodName := ⟨"PictureFile$PackedBits", "clear", "()V"⟩
theorem w_PackedBits_clear : Cond.code y_PackedBits_clear prog_5_method_2_code 1 none ∈ kw_Ts := (kw_m2 (i := 213) (by decide +kernel) (by decide +kernel))
def y_Fault_refuse : MethodName := ⟨"PictureFile$Fault", "refuse", "(II)Z"⟩
theorem w_Fault_refuse : Cond.code y_Fault_refuse prog_3_method_3_code 3 (some .boolean) ∈ kw_Ts := (kw_m2 (i := 219) (by decide +kernel) (by decide +kernel))
def y_Tape_pair : MethodName := ⟨"PictureFile$Tape", "pair", "(I)I"⟩
theorem w_Tape_pair : Cond.code y_Tape_pair prog_10_method_7_code 2 (some .int) ∈ kw_Ts := (kw_m2 (i := 233) (by decide +kernel) (by decide +kernel))
theorem mi_Tape_33 : kw_mi "PictureFile$Tape" 33 y_Tape_pair prog_10_method_7_code 2 (some .int) 1 := ⟨(kw_m2 (i := 230) (by decide +kernel) (by decide +kernel)), w_Tape_pair, in_Tape, by decide +kernel, by decide +kernel, by decide +kernel⟩
theorem v_Tape_pair : Cond.instanceMethod y_Tape_pair ∈ kw_Ts ∧ Cond.selects y_Tape_pair.cls y_Tape_pair y_Tape_pair ∈ kw_Ts := ⟨(kw_m2 (i := 231) (by decide +kernel) (by decide +kernel)), (kw_m2 (i := 232) (by decide +kernel) (by decide +kernel))⟩
def y_Tape_number : MethodName := ⟨"PictureFile$Tape", "number", "(I)I"⟩
theorem w_Tape_number : Cond.code y_Tape_number prog_10_method_8_code 2 (some .int) ∈ kw_Ts := (kw_m2 (i := 229) (by decide +kernel) (by decide +kernel))
def y_Pieces_isLetter : MethodName := ⟨"PictureFile$Pieces", "isLetter", "(I)Z"⟩
theorem w_Pieces_isLetter : Cond.code y_Pieces_isLetter prog_8_method_4_code 1 (some .boolean) ∈ kw_Ts := (kw_m2 (i := 236) (by decide +kernel) (by decide +kernel))
theorem fi_Tape_18 : kw_fi "PictureFile$Tape" 18 1 2 true := ⟨mmR_1, mmT_1, 3, rfl, rfl, by decide, mmI_1, mmY_1, mmN_1, rfl, (kw_m1 (i := 50) (by decide +kernel) (by decide +kernel))⟩
def y_Tape_check : MethodName := ⟨"PictureFile$Tape", "check", "(II)I"⟩
theorem w_Tape_check : Cond.code y_Tape_check prog_10_method_9_code 5 (some .int) ∈ kw_Ts := (kw_m3 (i := 0) (by decide +kernel) (by decide +kernel))
theorem fi_Pieces_9 : kw_fi "PictureFile$Pieces" 9 5 0 true := ⟨mmR_5, mmT_5, 8, rfl, rfl, by decide, mmI_5, mmY_5, mmN_5, rfl, (kw_m1 (i := 125) (by decide +kernel) (by decide +kernel))⟩
theorem fi_Pieces_52 : kw_fi "PictureFile$Pieces" 52 1 1 false := ⟨mmR_1, mmT_1, 3, rfl, rfl, by decide, mmI_1, mmY_1, mmN_1, rfl, (kw_m1 (i := 49) (by decide +kernel) (by decide +kernel))⟩
theorem mi_Pieces_73 : kw_mi "PictureFile$Pieces" 73 y_Tape_number prog_10_method_8_code 2 (some .int) 1 := ⟨(kw_m2 (i := 226) (by decide +kernel) (by decide +kernel)), w_Tape_number, in_Tape, by decide +kernel, by decide +kernel, by decide +kernel⟩
theorem v_Tape_number : Cond.instanceMethod y_Tape_number ∈ kw_Ts ∧ Cond.selects y_Tape_number.cls y_Tape_number y_Tape_number ∈ kw_Ts := ⟨(kw_m2 (i := 227) (by decide +kernel) (by decide +kernel)), (kw_m2 (i := 228) (by decide +kernel) (by decide +kernel))⟩
theorem mi_Pieces_80 : kw_mi "PictureFile$Pieces" 80 y_Tape_check prog_10_method_9_code 5 (some .int) 2 := ⟨(kw_m2 (i := 237) (by decide +kernel) (by decide +kernel)), w_Tape_check, in_Tape, by decide +kernel, by decide +kernel, by decide +kernel⟩
theorem v_Tape_check : Cond.instanceMethod y_Tape_check ∈ kw_Ts ∧ Cond.selects y_Tape_check.cls y_Tape_check y_Tape_check ∈ kw_Ts := ⟨(kw_m2 (i := 238) (by decide +kernel) (by decide +kernel)), (kw_m2 (i := 239) (by decide +kernel) (by decide +kernel))⟩
theorem fi_Pieces_15 : kw_fi "PictureFile$Pieces" 15 5 1 true := ⟨mmR_5, mmT_5, 8, rfl, rfl, by decide, mmI_5, mmY_5, mmN_5, rfl, (kw_m1 (i := 126) (by decide +kernel) (by decide +kernel))⟩
theorem in_Fault : Cond.initialized "PictureFile$Fault" ∈ kw_Ts := (kw_m1 (i := 3) (by decide +kernel) (by decide +kernel))
theorem mi_Pieces_58 : kw_mi "PictureFile$Pieces" 58 y_Fault_refuse prog_3_method_3_code 3 (some .boolean) 2 := ⟨(kw_m2 (i := 216) (by decide +kernel) (by decide +kernel)), w_Fault_refuse, in_Fault, by decide +kernel, by decide +kernel, by decide +kernel⟩
theorem v_Fault_refuse : Cond.instanceMethod y_Fault_refuse ∈ kw_Ts ∧ Cond.selects y_Fault_refuse.cls y_Fault_refuse y_Fault_refuse ∈ kw_Ts := ⟨(kw_m2 (i := 217) (by decide +kernel) (by decide +kernel)), (kw_m2 (i := 218) (by decide +kernel) (by decide +kernel))⟩
theorem fi_Pieces_55 : kw_fi "PictureFile$Pieces" 55 1 0 true := ⟨mmR_1, mmT_1, 3, rfl, rfl, by decide, mmI_1, mmY_1, mmN_1, rfl, (kw_m1 (i := 43) (by decide +kernel) (by decide +kernel))⟩
theorem in_Pieces : Cond.initialized "PictureFile$Pieces" ∈ kw_Ts := (kw_m1 (i := 6) (by decide +kernel) (by decide +kernel))
theorem mi_Pieces_77 : kw_mi "PictureFile$Pieces" 77 y_Pieces_isLetter prog_8_method_4_code 1 (some .boolean) 1 := ⟨(kw_m2 (i := 234) (by decide +kernel) (by decide +kernel)), w_Pieces_isLetter, in_Pieces, by decide +kernel, by decide +kernel, by decide +kernel⟩
theorem s_Pieces_isLetter : Cond.static y_Pieces_isLetter ∈ kw_Ts := (kw_m2 (i := 235) (by decide +kernel) (by decide +kernel))
def y_Pieces_isWhole : MethodName := ⟨"PictureFile$Pieces", "isWhole", "(I)Z"⟩
theorem w_Pieces_isWhole : Cond.code y_Pieces_isWhole prog_8_method_3_code 4 (some .boolean) ∈ kw_Ts := (kw_m2 (i := 225) (by decide +kernel) (by decide +kernel))
def y_Picture_mayHaveColours : MethodName := ⟨"PictureFile$Picture", "mayHaveColours", "(I)Z"⟩
theorem w_Picture_mayHaveColours : Cond.code y_Picture_mayHaveColours prog_7_method_5_code 1 (some .boolean) ∈ kw_Ts := (kw_m3 (i := 12) (by decide +kernel) (by decide +kernel))
def y_Picture_mayHaveThins : MethodName := ⟨"PictureFile$Picture", "mayHaveThins", "(I)Z"⟩
theorem w_Picture_mayHaveThins : Cond.code y_Picture_mayHaveThins prog_7_method_6_code 1 (some .boolean) ∈ kw_Ts := (kw_m3 (i := 15) (by decide +kernel) (by decide +kernel))
theorem fi_Pieces_27 : kw_fi "PictureFile$Pieces" 27 5 4 false := ⟨mmR_5, mmT_5, 8, rfl, rfl, by decide, mmI_5, mmY_5, mmN_5, rfl, (kw_m1 (i := 129) (by decide +kernel) (by decide +kernel))⟩
theorem k_Pieces_99 : Cond.constant "PictureFile$Pieces" 99 1229472850 ∈ kw_Ts := (kw_m3 (i := 9) (by decide +kernel) (by decide +kernel))
theorem fi_Pieces_23 : kw_fi "PictureFile$Pieces" 23 5 3 false := ⟨mmR_5, mmT_5, 8, rfl, rfl, by decide, mmI_5, mmY_5, mmN_5, rfl, (kw_m1 (i := 128) (by decide +kernel) (by decide +kernel))⟩
theorem fi_Pieces_100 : kw_fi "PictureFile$Pieces" 100 10 2 false := ⟨mmR_10, mmT_10, 12, rfl, rfl, by decide, mmI_10, mmY_10, mmN_10, rfl, (kw_m2 (i := 108) (by decide +kernel) (by decide +kernel))⟩
theorem fi_Pieces_38 : kw_fi "PictureFile$Pieces" 38 5 7 false := ⟨mmR_5, mmT_5, 8, rfl, rfl, by decide, mmI_5, mmY_5, mmN_5, rfl, (kw_m1 (i := 132) (by decide +kernel) (by decide +kernel))⟩
theorem k_Pieces_111 : Cond.constant "PictureFile$Pieces" 111 1229209940 ∈ kw_Ts := (kw_m3 (i := 16) (by decide +kernel) (by decide +kernel))
theorem in_Picture : Cond.initialized "PictureFile$Picture" ∈ kw_Ts := (kw_m1 (i := 12) (by decide +kernel) (by decide +kernel))
theorem mi_Pieces_105 : kw_mi "PictureFile$Pieces" 105 y_Picture_mayHaveColours prog_7_method_5_code 1 (some .boolean) 1 := ⟨(kw_m3 (i := 10) (by decide +kernel) (by decide +kernel)), w_Picture_mayHaveColours, in_Picture, by decide +kernel, by decide +kernel, by decide +kernel⟩
theorem s_Picture_mayHaveColours : Cond.static y_Picture_mayHaveColours ∈ kw_Ts := (kw_m3 (i := 11) (by decide +kernel) (by decide +kernel))
theorem fi_Pieces_31 : kw_fi "PictureFile$Pieces" 31 5 5 false := ⟨mmR_5, mmT_5, 8, rfl, rfl, by decide, mmI_5, mmY_5, mmN_5, rfl, (kw_m1 (i := 130) (by decide +kernel) (by decide +kernel))⟩
theorem fi_Pieces_35 : kw_fi "PictureFile$Pieces" 35 5 6 false := ⟨mmR_5, mmT_5, 8, rfl, rfl, by decide, mmI_5, mmY_5, mmN_5, rfl, (kw_m1 (i := 131) (by decide +kernel) (by decide +kernel))⟩
theorem mi_Pieces_108 : kw_mi "PictureFile$Pieces" 108 y_Picture_mayHaveThins prog_7_method_6_code 1 (some .boolean) 1 := ⟨(kw_m3 (i := 13) (by decide +kernel) (by decide +kernel)), w_Picture_mayHaveThins, in_Picture, by decide +kernel, by decide +kernel, by decide +kernel⟩
theorem s_Picture_mayHaveThins : Cond.static y_Picture_mayHaveThins ∈ kw_Ts := (kw_m3 (i := 14) (by decide +kernel) (by decide +kernel))
def y_Pieces_mayStand : MethodName := ⟨"PictureFile$Pieces", "mayStand", "(I)Z"⟩
theorem w_Pieces_mayStand : Cond.code y_Pieces_mayStand prog_8_method_6_code 3 (some .boolean) ∈ kw_Ts := (kw_m3 (i := 8) (by decide +kernel) (by decide +kernel))
def y_Picture_isSize : MethodName := ⟨"PictureFile$Picture", "isSize", "(I)Z"⟩
theorem w_Picture_isSize : Cond.code y_Picture_isSize prog_7_method_2_code 1 (some .boolean) ∈ kw_Ts := (kw_m3 (i := 27) (by decide +kernel) (by decide +kernel))
def y_Picture_isDepth : MethodName := ⟨"PictureFile$Picture", "isDepth", "(I)Z"⟩
theorem w_Picture_isDepth : Cond.code y_Picture_isDepth prog_7_method_3_code 1 (some .boolean) ∈ kw_Ts := (kw_m3 (i := 30) (by decide +kernel) (by decide +kernel))
theorem mi_Picture_26 : kw_mi "PictureFile$Picture" 26 y_Picture_isDepth prog_7_method_3_code 1 (some .boolean) 1 := ⟨(kw_m3 (i := 34) (by decide +kernel) (by decide +kernel)), w_Picture_isDepth, in_Picture, by decide +kernel, by decide +kernel, by decide +kernel⟩
theorem s_Picture_isDepth : Cond.static y_Picture_isDepth ∈ kw_Ts := (kw_m3 (i := 29) (by decide +kernel) (by decide +kernel))
def y_Picture_kindHas : MethodName := ⟨"PictureFile$Picture", "kindHas", "(II)Z"⟩
theorem w_Picture_kindHas : Cond.code y_Picture_kindHas prog_7_method_4_code 2 (some .boolean) ∈ kw_Ts := (kw_m3 (i := 33) (by decide +kernel) (by decide +kernel))
/-! Tape_eightSteps -/
def rm_Tape_eightSteps : Room := { frames := 0, cells := 0, slots := 0, locals := 0 }
def F_Tape_eightSteps (n : Nat) (a0 : Int32) (σ : Mm) : Option (Int32 × Mm) :=
kf_l (α := Int32 × Int32) n (fun k1 x2 σ3 =>
if 8 ≤ x2.2 then (
some (x2.1, σ3)) else (
kf_j (α := Int32) (fun x5 σ6 =>
kf_let (x2.2 + Int32.ofInt 1) fun x7 =>
k1 (x5, x7) σ6) fun k4 =>
if (x2.1 &&& 1) = 1 then (
k4 (((x2.1.toUInt32 >>> ((1 : Int32).toUInt32 &&& Int32.toUInt32 31)).toInt32) ^^^ (-306674912)) σ3) else (
k4 ((x2.1.toUInt32 >>> ((1 : Int32).toUInt32 &&& Int32.toUInt32 31)).toInt32) σ3))) (a0, 0) σ
theorem d_Tape_eightSteps_0 : decode prog_10_method_2_code 0 = .ok (.iload_n 0, 1) := by decide +kernel
theorem d_Tape_eightSteps_1 : decode prog_10_method_2_code 1 = .ok (.istore_n 1, 1) := by decide +kernel
theorem d_Tape_eightSteps_2 : decode prog_10_method_2_code 2 = .ok (.iconst 0, 1) := by decide +kernel
theorem d_Tape_eightSteps_3 : decode prog_10_method_2_code 3 = .ok (.istore_n 2, 1) := by decide +kernel
theorem d_Tape_eightSteps_4 : decode prog_10_method_2_code 4 = .ok (.iload_n 2, 1) := by decide +kernel
theorem d_Tape_eightSteps_5 : decode prog_10_method_2_code 5 = .ok (.bipush 8, 2) := by decide +kernel
theorem d_Tape_eightSteps_7 : decode prog_10_method_2_code 7 = .ok (.if_icmp .ge 29, 3) := by decide +kernel
theorem d_Tape_eightSteps_10 : decode prog_10_method_2_code 10 = .ok (.iload_n 1, 1) := by decide +kernel
theorem d_Tape_eightSteps_11 : decode prog_10_method_2_code 11 = .ok (.iconst 1, 1) := by decide +kernel
theorem d_Tape_eightSteps_12 : decode prog_10_method_2_code 12 = .ok (.iand, 1) := by decide +kernel
theorem d_Tape_eightSteps_13 : decode prog_10_method_2_code 13 = .ok (.iconst 1, 1) := by decide +kernel
theorem d_Tape_eightSteps_14 : decode prog_10_method_2_code 14 = .ok (.if_icmp .ne 12, 3) := by decide +kernel
theorem d_Tape_eightSteps_17 : decode prog_10_method_2_code 17 = .ok (.iload_n 1, 1) := by decide +kernel
theorem d_Tape_eightSteps_18 : decode prog_10_method_2_code 18 = .ok (.iconst 1, 1) := by decide +kernel
theorem d_Tape_eightSteps_19 : decode prog_10_method_2_code 19 = .ok (.iushr, 1) := by decide +kernel
theorem d_Tape_eightSteps_20 : decode prog_10_method_2_code 20 = .ok (.ldc 25, 2) := by decide +kernel
theorem d_Tape_eightSteps_22 : decode prog_10_method_2_code 22 = .ok (.ixor, 1) := by decide +kernel
theorem d_Tape_eightSteps_23 : decode prog_10_method_2_code 23 = .ok (.goto 6, 3) := by decide +kernel
theorem d_Tape_eightSteps_26 : decode prog_10_method_2_code 26 = .ok (.iload_n 1, 1) := by decide +kernel
theorem d_Tape_eightSteps_27 : decode prog_10_method_2_code 27 = .ok (.iconst 1, 1) := by decide +kernel
theorem d_Tape_eightSteps_28 : decode prog_10_method_2_code 28 = .ok (.iushr, 1) := by decide +kernel
theorem d_Tape_eightSteps_29 : decode prog_10_method_2_code 29 = .ok (.istore_n 1, 1) := by decide +kernel
theorem d_Tape_eightSteps_30 : decode prog_10_method_2_code 30 = .ok (.iinc 2 1, 3) := by decide +kernel
theorem d_Tape_eightSteps_33 : decode prog_10_method_2_code 33 = .ok (.goto (-29), 3) := by decide +kernel
theorem d_Tape_eightSteps_36 : decode prog_10_method_2_code 36 = .ok (.iload_n 1, 1) := by decide +kernel
theorem d_Tape_eightSteps_37 : decode prog_10_method_2_code 37 = .ok (.ireturn, 1) := by decide +kernel
set_option maxRecDepth 100000 in
set_option maxHeartbeats 4000000 in
theorem c_Tape_eightSteps {l0 : Launch} (hl : l0.stackTraces = false) (n : Nat) (ids : List Nat)  (a0 : Int32) (σ : Mm) : kw_C l0 y_Tape_eightSteps (Cond.code y_Tape_eightSteps prog_10_method_2_code 3 (some .int) :: kw_Ts) rm_Tape_eightSteps kw_oi ids [] [.int a0] σ (F_Tape_eightSteps n a0 σ) := by
  refine kw_start (L0 := [some (.int a0), none, none]) hl (by decide +kernel) (Nat.le_of_ble_eq_true rfl) rfl (fun Γ ad C Ce => ?_)
  unfold F_Tape_eightSteps
  refine kw_iload_n C d_Tape_eightSteps_0 rfl ?_
  refine kw_istore_n (L' := [some (.int a0), some (.int a0), none]) C d_Tape_eightSteps_1 (by decide) rfl ?_
  refine kw_iconst (v := 0) C d_Tape_eightSteps_2 (by decide) ?_
  refine kw_istore_n (L' := [some (.int a0), some (.int a0), some (.int 0)]) C d_Tape_eightSteps_3 (by decide) rfl ?_
  refine kw_wk (kw_l (α := Int32 × Int32) (pc := 4) (Lj := fun x2 => [none, some (.int x2.1), some (.int x2.2)]) (stj := fun x2 => []) (fun k1 hk1 x2 σ3 => ?_) n (a0, 0) σ) ⟨Or.inl rfl, Or.inr rfl, Or.inr rfl, trivial⟩
  refine kw_iload_n C d_Tape_eightSteps_4 rfl ?_
  refine kw_bipush (v := 8) C d_Tape_eightSteps_5 (by decide) ?_
  refine kw_icmp_ge (tgt := 36) C d_Tape_eightSteps_7 (by decide) ?_ ?_
  · refine kw_iload_n C d_Tape_eightSteps_36 rfl ?_
    exact kw_iret C Ce rfl (by simp) (fun _ _ => rfl) (Nat.le_of_ble_eq_true rfl) (Nat.le_of_ble_eq_true rfl) rfl d_Tape_eightSteps_37
  · refine kw_iload_n C d_Tape_eightSteps_10 rfl ?_
    refine kw_iconst (v := 1) C d_Tape_eightSteps_11 (by decide) ?_
    refine kw_iand C d_Tape_eightSteps_12 ?_
    refine kw_iconst (v := 1) C d_Tape_eightSteps_13 (by decide) ?_
    refine kw_j (α := Int32) (pcj := 29) (Lj := fun x5 => [none, none, some (.int x2.2)]) (stj := fun x5 => [.int x5]) (fun x5 σ6 => ?_) (fun k4 hk4 => ?_)
    · refine kw_istore_n (L' := [none, some (.int x5), some (.int x2.2)]) C d_Tape_eightSteps_29 (by decide) rfl ?_
      refine kw_iincL (L2 := fun x7 => [none, some (.int x5), some (.int x7)]) C d_Tape_eightSteps_30 (by decide) rfl (fun _ => rfl) (fun x7 => ?_)
      refine kw_goto (tgt := 4) C d_Tape_eightSteps_33 (by decide) ?_
      exact kw_wk (hk1 (x5, x7) σ6) ⟨Or.inl rfl, Or.inr rfl, Or.inr rfl, trivial⟩
    · refine kw_icmp_ne (tgt := 26) C d_Tape_eightSteps_14 (by decide) ?_ ?_
      · refine kw_iload_n C d_Tape_eightSteps_26 rfl ?_
        refine kw_iconst (v := 1) C d_Tape_eightSteps_27 (by decide) ?_
        refine kw_iushr C d_Tape_eightSteps_28 ?_
        exact kw_wk (hk4 ((x2.1.toUInt32 >>> ((1 : Int32).toUInt32 &&& Int32.toUInt32 31)).toInt32) σ3) ⟨Or.inl rfl, Or.inl rfl, Or.inr rfl, trivial⟩
      · refine kw_iload_n C d_Tape_eightSteps_17 rfl ?_
        refine kw_iconst (v := 1) C d_Tape_eightSteps_18 (by decide) ?_
        refine kw_iushr C d_Tape_eightSteps_19 ?_
        refine kw_ldc (v := -306674912) C d_Tape_eightSteps_20 k_Tape_25 ?_
        refine kw_ixor C d_Tape_eightSteps_22 ?_
        refine kw_goto (tgt := 29) C d_Tape_eightSteps_23 (by decide) ?_
        exact kw_wk (hk4 (((x2.1.toUInt32 >>> ((1 : Int32).toUInt32 &&& Int32.toUInt32 31)).toInt32) ^^^ (-306674912)) σ3) ⟨Or.inl rfl, Or.inl rfl, Or.inr rfl, trivial⟩
/-! Arr_fill -/
def rm_Arr_fill : Room := { frames := 0, cells := 0, slots := 0, locals := 0 }
def F_Arr_fill (n : Nat) (r0 : Nat) (a1 : Int32) (σ : Mm) : Option (Mm) :=
kf_let (Int32.ofNat (mm_kd r0).2.2 : Int32) fun x1 =>
kf_l (α := Int32) n (fun k2 x3 σ4 =>
if x1 ≤ x3 then (
some σ4) else (
kf_in x3 (mm_kd r0).2.2 <| kf_let (pB σ4 r0 x3.toNatClampNeg a1) fun σ5 =>
kf_let (x3 + Int32.ofInt 1) fun x6 =>
k2 x6 σ5)) 0 σ
theorem d_Arr_fill_0 : decode prog_23_method_103_code 0 = .ok (.iconst 0, 1) := by decide +kernel
theorem d_Arr_fill_1 : decode prog_23_method_103_code 1 = .ok (.istore_n 2, 1) := by decide +kernel
theorem d_Arr_fill_2 : decode prog_23_method_103_code 2 = .ok (.aload_n 0, 1) := by decide +kernel
theorem d_Arr_fill_3 : decode prog_23_method_103_code 3 = .ok (.arraylength, 1) := by decide +kernel
theorem d_Arr_fill_4 : decode prog_23_method_103_code 4 = .ok (.istore_n 3, 1) := by decide +kernel
theorem d_Arr_fill_5 : decode prog_23_method_103_code 5 = .ok (.iload_n 2, 1) := by decide +kernel
theorem d_Arr_fill_6 : decode prog_23_method_103_code 6 = .ok (.iload_n 3, 1) := by decide +kernel
theorem d_Arr_fill_7 : decode prog_23_method_103_code 7 = .ok (.if_icmp .ge 13, 3) := by decide +kernel
theorem d_Arr_fill_10 : decode prog_23_method_103_code 10 = .ok (.aload_n 0, 1) := by decide +kernel
theorem d_Arr_fill_11 : decode prog_23_method_103_code 11 = .ok (.iload_n 2, 1) := by decide +kernel
theorem d_Arr_fill_12 : decode prog_23_method_103_code 12 = .ok (.iload_n 1, 1) := by decide +kernel
theorem d_Arr_fill_13 : decode prog_23_method_103_code 13 = .ok (.iastore, 1) := by decide +kernel
theorem d_Arr_fill_14 : decode prog_23_method_103_code 14 = .ok (.iinc 2 1, 3) := by decide +kernel
theorem d_Arr_fill_17 : decode prog_23_method_103_code 17 = .ok (.goto (-12), 3) := by decide +kernel
theorem d_Arr_fill_20 : decode prog_23_method_103_code 20 = .ok (.return_, 1) := by decide +kernel
set_option maxRecDepth 100000 in
set_option maxHeartbeats 4000000 in
theorem c_Arr_fill {l0 : Launch} (hl : l0.stackTraces = false) (n : Nat) (ids : List Nat) {r0 : Nat} (hr0 : mm_ok ids r0 2 0) (a1 : Int32) (σ : Mm) : kw_C l0 y_Arr_fill (Cond.code y_Arr_fill prog_23_method_103_code 4 none :: kw_Ts) rm_Arr_fill kw_ov ids [] [.ref r0, .int a1] σ (F_Arr_fill n r0 a1 σ) := by
  refine kw_start (L0 := [some (.ref r0), some (.int a1), none, none]) hl (by decide +kernel) (Nat.le_of_ble_eq_true rfl) rfl (fun Γ ad C Ce => ?_)
  unfold F_Arr_fill
  refine kw_iconst (v := 0) C d_Arr_fill_0 (by decide) ?_
  refine kw_istore_n (L' := [some (.ref r0), some (.int a1), some (.int 0), none]) C d_Arr_fill_1 (by decide) rfl ?_
  refine kw_aload_n C d_Arr_fill_2 rfl ?_
  refine kw_alen C (Or.inl ⟨hr0.1, hr0.2.1⟩) d_Arr_fill_3 ?_
  refine kw_leti (fun x1 => ?_)
  refine kw_istore_n (L' := [some (.ref r0), some (.int a1), some (.int 0), some (.int x1)]) C d_Arr_fill_4 (by decide) rfl ?_
  refine kw_wk (kw_l (α := Int32) (pc := 5) (Lj := fun x3 => [some (.ref r0), some (.int a1), some (.int x3), some (.int x1)]) (stj := fun x3 => []) (fun k2 hk2 x3 σ4 => ?_) n 0 σ) ⟨Or.inr rfl, Or.inr rfl, Or.inr rfl, Or.inr rfl, trivial⟩
  refine kw_iload_n C d_Arr_fill_5 rfl ?_
  refine kw_iload_n C d_Arr_fill_6 rfl ?_
  refine kw_icmp_ge (tgt := 20) C d_Arr_fill_7 (by decide) ?_ ?_
  · exact kw_vret C Ce rfl (by simp) (fun _ _ => rfl) (Nat.le_of_ble_eq_true rfl) (Nat.le_of_ble_eq_true rfl) rfl d_Arr_fill_20
  · refine kw_aload_n C d_Arr_fill_10 rfl ?_
    refine kw_iload_n C d_Arr_fill_11 rfl ?_
    refine kw_iload_n C d_Arr_fill_12 rfl ?_
    refine kw_iast C hr0 d_Arr_fill_13 (fun σ5 => ?_)
    refine kw_iincL (L2 := fun x6 => [some (.ref r0), some (.int a1), some (.int x6), some (.int x1)]) C d_Arr_fill_14 (by decide) rfl (fun _ => rfl) (fun x6 => ?_)
    refine kw_goto (tgt := 5) C d_Arr_fill_17 (by decide) ?_
    exact kw_wk (hk2 x6 σ5) ⟨Or.inr rfl, Or.inr rfl, Or.inr rfl, Or.inr rfl, trivial⟩
/-! Codes_assign -/
def rm_Codes_assign : Room := { frames := 1, cells := 0, slots := 0, locals := 23 }
def F_Codes_assign (n : Nat) (t : Nat) (r0 : Nat) (a1 : Int32) (a2 : Int32) (σ : Mm) : Option (Mm) :=
Option.bind (gR σ (64 * t + 0)) fun o1 =>
Option.bind (F_Arr_fill n o1 0 σ) fun σ2 =>
kf_l (α := Int32) n (fun k3 x4 σ5 =>
if a2 ≤ x4 then (
Option.bind (gR σ5 (64 * t + 0)) fun o6 =>
kf_in 0 (mm_kd o6).2.2 <| kf_let (pB σ5 o6 (0 : Int32).toNatClampNeg 0) fun σ7 =>
kf_let (pS σ7 (64 * t + 3) 0) fun σ8 =>
kf_let (pS σ8 (64 * t + 4) 0) fun σ9 =>
kf_l (α := Int32) n (fun k10 x11 σ12 =>
if 15 < x11 then (
kf_l (α := Int32) n (fun k13 x14 σ15 =>
if a2 ≤ x14 then (
some σ15) else (
kf_let (a1 + x14 : Int32) fun x16 =>
kf_in x16 (mm_kd r0).2.2 <|
kf_let (gB σ15 r0 x16.toNatClampNeg : Int32) fun x17 =>
kf_j (α := Unit) (fun x19 σ20 =>
kf_let (x14 + Int32.ofInt 1) fun x21 =>
k13 x21 σ20) fun k18 =>
if x17 ≤ 0 then (
k18 () σ15) else (
Option.bind (gR σ15 (64 * t + 1)) fun o22 =>
Option.bind (gR σ15 (64 * t + 2)) fun o23 =>
kf_in x17 (mm_kd o23).2.2 <|
kf_in (gB σ15 o23 x17.toNatClampNeg) (mm_kd o22).2.2 <| kf_let (pB σ15 o22 (gB σ15 o23 x17.toNatClampNeg).toNatClampNeg x14) fun σ24 =>
Option.bind (gR σ24 (64 * t + 2)) fun o25 =>
kf_in x17 (mm_kd o25).2.2 <|
kf_in x17 (mm_kd o25).2.2 <| kf_let (pB σ24 o25 x17.toNatClampNeg ((gB σ24 o25 x17.toNatClampNeg) + 1)) fun σ26 =>
k18 () σ26))) 0 σ12) else (
Option.bind (gR σ12 (64 * t + 2)) fun o27 =>
kf_in x11 (mm_kd o27).2.2 <| kf_let (pB σ12 o27 x11.toNatClampNeg (gS σ12 (64 * t + 3))) fun σ28 =>
Option.bind (gR σ28 (64 * t + 0)) fun o29 =>
kf_in x11 (mm_kd o29).2.2 <|
kf_let (pS σ28 (64 * t + 3) ((gS σ28 (64 * t + 3)) + (gB σ28 o29 x11.toNatClampNeg))) fun σ30 =>
Option.bind (gR σ30 (64 * t + 0)) fun o31 =>
kf_in x11 (mm_kd o31).2.2 <|
kf_j (α := Int32) (fun x33 σ34 =>
kf_let (pS σ34 (64 * t + 4) x33) fun σ35 =>
kf_let (x11 + Int32.ofInt 1) fun x36 =>
k10 x36 σ35) fun k32 =>
if (gB σ30 o31 x11.toNatClampNeg) ≤ 0 then (
k32 (gS σ30 (64 * t + 4)) σ30) else (
k32 x11 σ30))) 1 σ9) else (
Option.bind (gR σ5 (64 * t + 0)) fun o37 =>
kf_let (a1 + x4 : Int32) fun x38 =>
kf_in x38 (mm_kd r0).2.2 <|
kf_let (gB σ5 r0 x38.toNatClampNeg : Int32) fun x39 =>
kf_in x39 (mm_kd o37).2.2 <|
kf_in x39 (mm_kd o37).2.2 <| kf_let (pB σ5 o37 x39.toNatClampNeg ((gB σ5 o37 x39.toNatClampNeg) + 1)) fun σ40 =>
kf_let (x4 + Int32.ofInt 1) fun x41 =>
k3 x41 σ40)) 0 σ2
theorem d_Codes_assign_0 : decode prog_2_method_2_code 0 = .ok (.aload_n 0, 1) := by decide +kernel
theorem d_Codes_assign_1 : decode prog_2_method_2_code 1 = .ok (.getfield 9, 3) := by decide +kernel
theorem d_Codes_assign_4 : decode prog_2_method_2_code 4 = .ok (.iconst 0, 1) := by decide +kernel
theorem d_Codes_assign_5 : decode prog_2_method_2_code 5 = .ok (.invokestatic 19, 3) := by decide +kernel
theorem d_Codes_assign_8 : decode prog_2_method_2_code 8 = .ok (.iconst 0, 1) := by decide +kernel
theorem d_Codes_assign_9 : decode prog_2_method_2_code 9 = .ok (.istore 4, 2) := by decide +kernel
theorem d_Codes_assign_11 : decode prog_2_method_2_code 11 = .ok (.iload 4, 2) := by decide +kernel
theorem d_Codes_assign_13 : decode prog_2_method_2_code 13 = .ok (.iload_n 3, 1) := by decide +kernel
theorem d_Codes_assign_14 : decode prog_2_method_2_code 14 = .ok (.if_icmp .ge 24, 3) := by decide +kernel
theorem d_Codes_assign_17 : decode prog_2_method_2_code 17 = .ok (.aload_n 0, 1) := by decide +kernel
theorem d_Codes_assign_18 : decode prog_2_method_2_code 18 = .ok (.getfield 9, 3) := by decide +kernel
theorem d_Codes_assign_21 : decode prog_2_method_2_code 21 = .ok (.aload_n 1, 1) := by decide +kernel
theorem d_Codes_assign_22 : decode prog_2_method_2_code 22 = .ok (.iload_n 2, 1) := by decide +kernel
theorem d_Codes_assign_23 : decode prog_2_method_2_code 23 = .ok (.iload 4, 2) := by decide +kernel
theorem d_Codes_assign_25 : decode prog_2_method_2_code 25 = .ok (.iadd, 1) := by decide +kernel
theorem d_Codes_assign_26 : decode prog_2_method_2_code 26 = .ok (.iaload, 1) := by decide +kernel
theorem d_Codes_assign_27 : decode prog_2_method_2_code 27 = .ok (.dup2, 1) := by decide +kernel
theorem d_Codes_assign_28 : decode prog_2_method_2_code 28 = .ok (.iaload, 1) := by decide +kernel
theorem d_Codes_assign_29 : decode prog_2_method_2_code 29 = .ok (.iconst 1, 1) := by decide +kernel
theorem d_Codes_assign_30 : decode prog_2_method_2_code 30 = .ok (.iadd, 1) := by decide +kernel
theorem d_Codes_assign_31 : decode prog_2_method_2_code 31 = .ok (.iastore, 1) := by decide +kernel
theorem d_Codes_assign_32 : decode prog_2_method_2_code 32 = .ok (.iinc 4 1, 3) := by decide +kernel
theorem d_Codes_assign_35 : decode prog_2_method_2_code 35 = .ok (.goto (-24), 3) := by decide +kernel
theorem d_Codes_assign_38 : decode prog_2_method_2_code 38 = .ok (.aload_n 0, 1) := by decide +kernel
theorem d_Codes_assign_39 : decode prog_2_method_2_code 39 = .ok (.getfield 9, 3) := by decide +kernel
theorem d_Codes_assign_42 : decode prog_2_method_2_code 42 = .ok (.iconst 0, 1) := by decide +kernel
theorem d_Codes_assign_43 : decode prog_2_method_2_code 43 = .ok (.iconst 0, 1) := by decide +kernel
theorem d_Codes_assign_44 : decode prog_2_method_2_code 44 = .ok (.iastore, 1) := by decide +kernel
theorem d_Codes_assign_45 : decode prog_2_method_2_code 45 = .ok (.aload_n 0, 1) := by decide +kernel
theorem d_Codes_assign_46 : decode prog_2_method_2_code 46 = .ok (.iconst 0, 1) := by decide +kernel
theorem d_Codes_assign_47 : decode prog_2_method_2_code 47 = .ok (.putfield 25, 3) := by decide +kernel
theorem d_Codes_assign_50 : decode prog_2_method_2_code 50 = .ok (.aload_n 0, 1) := by decide +kernel
theorem d_Codes_assign_51 : decode prog_2_method_2_code 51 = .ok (.iconst 0, 1) := by decide +kernel
theorem d_Codes_assign_52 : decode prog_2_method_2_code 52 = .ok (.putfield 29, 3) := by decide +kernel
theorem d_Codes_assign_55 : decode prog_2_method_2_code 55 = .ok (.iconst 1, 1) := by decide +kernel
theorem d_Codes_assign_56 : decode prog_2_method_2_code 56 = .ok (.istore 4, 2) := by decide +kernel
theorem d_Codes_assign_58 : decode prog_2_method_2_code 58 = .ok (.iload 4, 2) := by decide +kernel
theorem d_Codes_assign_60 : decode prog_2_method_2_code 60 = .ok (.bipush 15, 2) := by decide +kernel
theorem d_Codes_assign_62 : decode prog_2_method_2_code 62 = .ok (.if_icmp .gt 59, 3) := by decide +kernel
theorem d_Codes_assign_65 : decode prog_2_method_2_code 65 = .ok (.aload_n 0, 1) := by decide +kernel
theorem d_Codes_assign_66 : decode prog_2_method_2_code 66 = .ok (.getfield 16, 3) := by decide +kernel
theorem d_Codes_assign_69 : decode prog_2_method_2_code 69 = .ok (.iload 4, 2) := by decide +kernel
theorem d_Codes_assign_71 : decode prog_2_method_2_code 71 = .ok (.aload_n 0, 1) := by decide +kernel
theorem d_Codes_assign_72 : decode prog_2_method_2_code 72 = .ok (.getfield 25, 3) := by decide +kernel
theorem d_Codes_assign_75 : decode prog_2_method_2_code 75 = .ok (.iastore, 1) := by decide +kernel
theorem d_Codes_assign_76 : decode prog_2_method_2_code 76 = .ok (.aload_n 0, 1) := by decide +kernel
theorem d_Codes_assign_77 : decode prog_2_method_2_code 77 = .ok (.dup, 1) := by decide +kernel
theorem d_Codes_assign_78 : decode prog_2_method_2_code 78 = .ok (.getfield 25, 3) := by decide +kernel
theorem d_Codes_assign_81 : decode prog_2_method_2_code 81 = .ok (.aload_n 0, 1) := by decide +kernel
theorem d_Codes_assign_82 : decode prog_2_method_2_code 82 = .ok (.getfield 9, 3) := by decide +kernel
theorem d_Codes_assign_85 : decode prog_2_method_2_code 85 = .ok (.iload 4, 2) := by decide +kernel
theorem d_Codes_assign_87 : decode prog_2_method_2_code 87 = .ok (.iaload, 1) := by decide +kernel
theorem d_Codes_assign_88 : decode prog_2_method_2_code 88 = .ok (.iadd, 1) := by decide +kernel
theorem d_Codes_assign_89 : decode prog_2_method_2_code 89 = .ok (.putfield 25, 3) := by decide +kernel
theorem d_Codes_assign_92 : decode prog_2_method_2_code 92 = .ok (.aload_n 0, 1) := by decide +kernel
theorem d_Codes_assign_93 : decode prog_2_method_2_code 93 = .ok (.aload_n 0, 1) := by decide +kernel
theorem d_Codes_assign_94 : decode prog_2_method_2_code 94 = .ok (.getfield 9, 3) := by decide +kernel
theorem d_Codes_assign_97 : decode prog_2_method_2_code 97 = .ok (.iload 4, 2) := by decide +kernel
theorem d_Codes_assign_99 : decode prog_2_method_2_code 99 = .ok (.iaload, 1) := by decide +kernel
theorem d_Codes_assign_100 : decode prog_2_method_2_code 100 = .ok (.ifCond .le 8, 3) := by decide +kernel
theorem d_Codes_assign_103 : decode prog_2_method_2_code 103 = .ok (.iload 4, 2) := by decide +kernel
theorem d_Codes_assign_105 : decode prog_2_method_2_code 105 = .ok (.goto 7, 3) := by decide +kernel
theorem d_Codes_assign_108 : decode prog_2_method_2_code 108 = .ok (.aload_n 0, 1) := by decide +kernel
theorem d_Codes_assign_109 : decode prog_2_method_2_code 109 = .ok (.getfield 29, 3) := by decide +kernel
theorem d_Codes_assign_112 : decode prog_2_method_2_code 112 = .ok (.putfield 29, 3) := by decide +kernel
theorem d_Codes_assign_115 : decode prog_2_method_2_code 115 = .ok (.iinc 4 1, 3) := by decide +kernel
theorem d_Codes_assign_118 : decode prog_2_method_2_code 118 = .ok (.goto (-60), 3) := by decide +kernel
theorem d_Codes_assign_121 : decode prog_2_method_2_code 121 = .ok (.iconst 0, 1) := by decide +kernel
theorem d_Codes_assign_122 : decode prog_2_method_2_code 122 = .ok (.istore 4, 2) := by decide +kernel
theorem d_Codes_assign_124 : decode prog_2_method_2_code 124 = .ok (.iload 4, 2) := by decide +kernel
theorem d_Codes_assign_126 : decode prog_2_method_2_code 126 = .ok (.iload_n 3, 1) := by decide +kernel
theorem d_Codes_assign_127 : decode prog_2_method_2_code 127 = .ok (.if_icmp .ge 47, 3) := by decide +kernel
theorem d_Codes_assign_130 : decode prog_2_method_2_code 130 = .ok (.aload_n 1, 1) := by decide +kernel
theorem d_Codes_assign_131 : decode prog_2_method_2_code 131 = .ok (.iload_n 2, 1) := by decide +kernel
theorem d_Codes_assign_132 : decode prog_2_method_2_code 132 = .ok (.iload 4, 2) := by decide +kernel
theorem d_Codes_assign_134 : decode prog_2_method_2_code 134 = .ok (.iadd, 1) := by decide +kernel
theorem d_Codes_assign_135 : decode prog_2_method_2_code 135 = .ok (.iaload, 1) := by decide +kernel
theorem d_Codes_assign_136 : decode prog_2_method_2_code 136 = .ok (.istore 5, 2) := by decide +kernel
theorem d_Codes_assign_138 : decode prog_2_method_2_code 138 = .ok (.iload 5, 2) := by decide +kernel
theorem d_Codes_assign_140 : decode prog_2_method_2_code 140 = .ok (.ifCond .le 28, 3) := by decide +kernel
theorem d_Codes_assign_143 : decode prog_2_method_2_code 143 = .ok (.aload_n 0, 1) := by decide +kernel
theorem d_Codes_assign_144 : decode prog_2_method_2_code 144 = .ok (.getfield 13, 3) := by decide +kernel
theorem d_Codes_assign_147 : decode prog_2_method_2_code 147 = .ok (.aload_n 0, 1) := by decide +kernel
theorem d_Codes_assign_148 : decode prog_2_method_2_code 148 = .ok (.getfield 16, 3) := by decide +kernel
theorem d_Codes_assign_151 : decode prog_2_method_2_code 151 = .ok (.iload 5, 2) := by decide +kernel
theorem d_Codes_assign_153 : decode prog_2_method_2_code 153 = .ok (.iaload, 1) := by decide +kernel
theorem d_Codes_assign_154 : decode prog_2_method_2_code 154 = .ok (.iload 4, 2) := by decide +kernel
theorem d_Codes_assign_156 : decode prog_2_method_2_code 156 = .ok (.iastore, 1) := by decide +kernel
theorem d_Codes_assign_157 : decode prog_2_method_2_code 157 = .ok (.aload_n 0, 1) := by decide +kernel
theorem d_Codes_assign_158 : decode prog_2_method_2_code 158 = .ok (.getfield 16, 3) := by decide +kernel
theorem d_Codes_assign_161 : decode prog_2_method_2_code 161 = .ok (.iload 5, 2) := by decide +kernel
theorem d_Codes_assign_163 : decode prog_2_method_2_code 163 = .ok (.dup2, 1) := by decide +kernel
theorem d_Codes_assign_164 : decode prog_2_method_2_code 164 = .ok (.iaload, 1) := by decide +kernel
theorem d_Codes_assign_165 : decode prog_2_method_2_code 165 = .ok (.iconst 1, 1) := by decide +kernel
theorem d_Codes_assign_166 : decode prog_2_method_2_code 166 = .ok (.iadd, 1) := by decide +kernel
theorem d_Codes_assign_167 : decode prog_2_method_2_code 167 = .ok (.iastore, 1) := by decide +kernel
theorem d_Codes_assign_168 : decode prog_2_method_2_code 168 = .ok (.iinc 4 1, 3) := by decide +kernel
theorem d_Codes_assign_171 : decode prog_2_method_2_code 171 = .ok (.goto (-47), 3) := by decide +kernel
theorem d_Codes_assign_174 : decode prog_2_method_2_code 174 = .ok (.return_, 1) := by decide +kernel
set_option maxRecDepth 100000 in
set_option maxHeartbeats 4000000 in
theorem c_Codes_assign {l0 : Launch} (hl : l0.stackTraces = false) (n : Nat) (ids : List Nat) {t : Nat} (ht : mm_ok ids t 1 7) {r0 : Nat} (hr0 : mm_ai ids r0) (a1 : Int32) (a2 : Int32) (σ : Mm) : kw_C l0 y_Codes_assign (Cond.code y_Codes_assign prog_2_method_2_code 6 none :: kw_Ts) rm_Codes_assign kw_ov ids [] [.ref t, .ref r0, .int a1, .int a2] σ (F_Codes_assign n t r0 a1 a2 σ) := by
  refine kw_start (L0 := [some (.ref t), some (.ref r0), some (.int a1), some (.int a2), none, none]) hl (by decide +kernel) (Nat.le_of_ble_eq_true rfl) rfl (fun Γ ad C Ce => ?_)
  unfold F_Codes_assign
  refine kw_aload_n C d_Codes_assign_0 rfl ?_
  refine kw_getR C fi_Codes_9 rfl rfl ht d_Codes_assign_1 (fun o1 ho1 => ?_)
  refine kw_iconst (v := 0) C d_Codes_assign_4 (by decide) ?_
  refine kw_callSv (cl' := 0) (sl' := 0) (As := [.ref o1, .int 0]) C (c_Arr_fill hl n ids ho1 0 σ) mi_Codes_19 s_Arr_fill ⟨Nat.le_of_ble_eq_true rfl, Nat.le_of_ble_eq_true rfl⟩ (Nat.le_of_ble_eq_true rfl) ⟨Nat.le_of_ble_eq_true rfl, Nat.le_of_ble_eq_true rfl⟩ ⟨rfl, rfl⟩ rfl d_Codes_assign_5 (fun σ2 => ?_)
  refine kw_iconst (v := 0) C d_Codes_assign_8 (by decide) ?_
  refine kw_istore (L' := [some (.ref t), some (.ref r0), some (.int a1), some (.int a2), some (.int 0), none]) C d_Codes_assign_9 (by decide) rfl ?_
  refine kw_wk (kw_l (α := Int32) (pc := 11) (Lj := fun x4 => [some (.ref t), some (.ref r0), some (.int a1), some (.int a2), some (.int x4), none]) (stj := fun x4 => []) (fun k3 hk3 x4 σ5 => ?_) n 0 σ2) ⟨Or.inr rfl, Or.inr rfl, Or.inr rfl, Or.inr rfl, Or.inr rfl, Or.inl rfl, trivial⟩
  refine kw_iload C d_Codes_assign_11 rfl ?_
  refine kw_iload_n C d_Codes_assign_13 rfl ?_
  refine kw_icmp_ge (tgt := 38) C d_Codes_assign_14 (by decide) ?_ ?_
  · refine kw_aload_n C d_Codes_assign_38 rfl ?_
    refine kw_getR C fi_Codes_9 rfl rfl ht d_Codes_assign_39 (fun o6 ho6 => ?_)
    refine kw_iconst (v := 0) C d_Codes_assign_42 (by decide) ?_
    refine kw_iconst (v := 0) C d_Codes_assign_43 (by decide) ?_
    refine kw_iast C ho6 d_Codes_assign_44 (fun σ7 => ?_)
    refine kw_aload_n C d_Codes_assign_45 rfl ?_
    refine kw_iconst (v := 0) C d_Codes_assign_46 (by decide) ?_
    refine kw_putI C fi_Codes_25 rfl ht d_Codes_assign_47 (fun σ8 => ?_)
    refine kw_aload_n C d_Codes_assign_50 rfl ?_
    refine kw_iconst (v := 0) C d_Codes_assign_51 (by decide) ?_
    refine kw_putI C fi_Codes_29 rfl ht d_Codes_assign_52 (fun σ9 => ?_)
    refine kw_iconst (v := 1) C d_Codes_assign_55 (by decide) ?_
    refine kw_istore (L' := [some (.ref t), some (.ref r0), some (.int a1), some (.int a2), some (.int 1), none]) C d_Codes_assign_56 (by decide) rfl ?_
    refine kw_wk (kw_l (α := Int32) (pc := 58) (Lj := fun x11 => [some (.ref t), some (.ref r0), some (.int a1), some (.int a2), some (.int x11), none]) (stj := fun x11 => []) (fun k10 hk10 x11 σ12 => ?_) n 1 σ9) ⟨Or.inr rfl, Or.inr rfl, Or.inr rfl, Or.inr rfl, Or.inr rfl, Or.inl rfl, trivial⟩
    refine kw_iload C d_Codes_assign_58 rfl ?_
    refine kw_bipush (v := 15) C d_Codes_assign_60 (by decide) ?_
    refine kw_icmp_gt (tgt := 121) C d_Codes_assign_62 (by decide) ?_ ?_
    · refine kw_iconst (v := 0) C d_Codes_assign_121 (by decide) ?_
      refine kw_istore (L' := [some (.ref t), some (.ref r0), some (.int a1), some (.int a2), some (.int 0), none]) C d_Codes_assign_122 (by decide) rfl ?_
      refine kw_wk (kw_l (α := Int32) (pc := 124) (Lj := fun x14 => [some (.ref t), some (.ref r0), some (.int a1), some (.int a2), some (.int x14), none]) (stj := fun x14 => []) (fun k13 hk13 x14 σ15 => ?_) n 0 σ12) ⟨Or.inr rfl, Or.inr rfl, Or.inr rfl, Or.inr rfl, Or.inr rfl, Or.inl rfl, trivial⟩
      refine kw_iload C d_Codes_assign_124 rfl ?_
      refine kw_iload_n C d_Codes_assign_126 rfl ?_
      refine kw_icmp_ge (tgt := 174) C d_Codes_assign_127 (by decide) ?_ ?_
      · exact kw_vret C Ce rfl (by simp) (fun _ _ => rfl) (Nat.le_of_ble_eq_true rfl) (Nat.le_of_ble_eq_true rfl) rfl d_Codes_assign_174
      · refine kw_aload_n C d_Codes_assign_130 rfl ?_
        refine kw_iload_n C d_Codes_assign_131 rfl ?_
        refine kw_iload C d_Codes_assign_132 rfl ?_
        refine kw_iadd C d_Codes_assign_134 ?_
        refine kw_leti (fun x16 => ?_)
        refine kw_iald C hr0 d_Codes_assign_135 ?_
        refine kw_leti (fun x17 => ?_)
        refine kw_istore (L' := [some (.ref t), some (.ref r0), some (.int a1), some (.int a2), some (.int x14), some (.int x17)]) C d_Codes_assign_136 (by decide) rfl ?_
        refine kw_iload C d_Codes_assign_138 rfl ?_
        refine kw_j (α := Unit) (pcj := 168) (Lj := fun x19 => [some (.ref t), some (.ref r0), some (.int a1), some (.int a2), some (.int x14), none]) (stj := fun x19 => []) (fun x19 σ20 => ?_) (fun k18 hk18 => ?_)
        · refine kw_iincL (L2 := fun x21 => [some (.ref t), some (.ref r0), some (.int a1), some (.int a2), some (.int x21), none]) C d_Codes_assign_168 (by decide) rfl (fun _ => rfl) (fun x21 => ?_)
          refine kw_goto (tgt := 124) C d_Codes_assign_171 (by decide) ?_
          exact kw_wk (hk13 x21 σ20) ⟨Or.inr rfl, Or.inr rfl, Or.inr rfl, Or.inr rfl, Or.inr rfl, Or.inl rfl, trivial⟩
        · refine kw_if_le (tgt := 168) C d_Codes_assign_140 (by decide) ?_ ?_
          · exact kw_wk (hk18 () σ15) ⟨Or.inr rfl, Or.inr rfl, Or.inr rfl, Or.inr rfl, Or.inr rfl, Or.inl rfl, trivial⟩
          · refine kw_aload_n C d_Codes_assign_143 rfl ?_
            refine kw_getR C fi_Codes_13 rfl rfl ht d_Codes_assign_144 (fun o22 ho22 => ?_)
            refine kw_aload_n C d_Codes_assign_147 rfl ?_
            refine kw_getR C fi_Codes_16 rfl rfl ht d_Codes_assign_148 (fun o23 ho23 => ?_)
            refine kw_iload C d_Codes_assign_151 rfl ?_
            refine kw_iald C (Or.inl ⟨ho23.1, ho23.2.1⟩) d_Codes_assign_153 ?_
            refine kw_iload C d_Codes_assign_154 rfl ?_
            refine kw_iast C ho22 d_Codes_assign_156 (fun σ24 => ?_)
            refine kw_aload_n C d_Codes_assign_157 rfl ?_
            refine kw_getR C fi_Codes_16 rfl rfl ht d_Codes_assign_158 (fun o25 ho25 => ?_)
            refine kw_iload C d_Codes_assign_161 rfl ?_
            refine kw_dup2 C d_Codes_assign_163 rfl rfl ?_
            refine kw_iald C (Or.inl ⟨ho25.1, ho25.2.1⟩) d_Codes_assign_164 ?_
            refine kw_iconst (v := 1) C d_Codes_assign_165 (by decide) ?_
            refine kw_iadd C d_Codes_assign_166 ?_
            refine kw_iast C ho25 d_Codes_assign_167 (fun σ26 => ?_)
            exact kw_wk (hk18 () σ26) ⟨Or.inr rfl, Or.inr rfl, Or.inr rfl, Or.inr rfl, Or.inr rfl, Or.inl rfl, trivial⟩
    · refine kw_aload_n C d_Codes_assign_65 rfl ?_
      refine kw_getR C fi_Codes_16 rfl rfl ht d_Codes_assign_66 (fun o27 ho27 => ?_)
      refine kw_iload C d_Codes_assign_69 rfl ?_
      refine kw_aload_n C d_Codes_assign_71 rfl ?_
      refine kw_getI C fi_Codes_25 (Or.inl rfl) ht d_Codes_assign_72 ?_
      refine kw_iast C ho27 d_Codes_assign_75 (fun σ28 => ?_)
      refine kw_aload_n C d_Codes_assign_76 rfl ?_
      refine kw_dup C d_Codes_assign_77 rfl ?_
      refine kw_getI C fi_Codes_25 (Or.inl rfl) ht d_Codes_assign_78 ?_
      refine kw_aload_n C d_Codes_assign_81 rfl ?_
      refine kw_getR C fi_Codes_9 rfl rfl ht d_Codes_assign_82 (fun o29 ho29 => ?_)
      refine kw_iload C d_Codes_assign_85 rfl ?_
      refine kw_iald C (Or.inl ⟨ho29.1, ho29.2.1⟩) d_Codes_assign_87 ?_
      refine kw_iadd C d_Codes_assign_88 ?_
      refine kw_putI C fi_Codes_25 rfl ht d_Codes_assign_89 (fun σ30 => ?_)
      refine kw_aload_n C d_Codes_assign_92 rfl ?_
      refine kw_aload_n C d_Codes_assign_93 rfl ?_
      refine kw_getR C fi_Codes_9 rfl rfl ht d_Codes_assign_94 (fun o31 ho31 => ?_)
      refine kw_iload C d_Codes_assign_97 rfl ?_
      refine kw_iald C (Or.inl ⟨ho31.1, ho31.2.1⟩) d_Codes_assign_99 ?_
      refine kw_j (α := Int32) (pcj := 112) (Lj := fun x33 => [some (.ref t), some (.ref r0), some (.int a1), some (.int a2), some (.int x11), none]) (stj := fun x33 => [.int x33, .ref t]) (fun x33 σ34 => ?_) (fun k32 hk32 => ?_)
      · refine kw_putI C fi_Codes_29 rfl ht d_Codes_assign_112 (fun σ35 => ?_)
        refine kw_iincL (L2 := fun x36 => [some (.ref t), some (.ref r0), some (.int a1), some (.int a2), some (.int x36), none]) C d_Codes_assign_115 (by decide) rfl (fun _ => rfl) (fun x36 => ?_)
        refine kw_goto (tgt := 58) C d_Codes_assign_118 (by decide) ?_
        exact kw_wk (hk10 x36 σ35) ⟨Or.inr rfl, Or.inr rfl, Or.inr rfl, Or.inr rfl, Or.inr rfl, Or.inl rfl, trivial⟩
      · refine kw_if_le (tgt := 108) C d_Codes_assign_100 (by decide) ?_ ?_
        · refine kw_aload_n C d_Codes_assign_108 rfl ?_
          refine kw_getI C fi_Codes_29 (Or.inl rfl) ht d_Codes_assign_109 ?_
          exact kw_wk (hk32 (gS σ30 (64 * t + 4)) σ30) ⟨Or.inr rfl, Or.inr rfl, Or.inr rfl, Or.inr rfl, Or.inr rfl, Or.inl rfl, trivial⟩
        · refine kw_iload C d_Codes_assign_103 rfl ?_
          refine kw_goto (tgt := 112) C d_Codes_assign_105 (by decide) ?_
          exact kw_wk (hk32 x11 σ30) ⟨Or.inr rfl, Or.inr rfl, Or.inr rfl, Or.inr rfl, Or.inr rfl, Or.inl rfl, trivial⟩
  · refine kw_aload_n C d_Codes_assign_17 rfl ?_
    refine kw_getR C fi_Codes_9 rfl rfl ht d_Codes_assign_18 (fun o37 ho37 => ?_)
    refine kw_aload_n C d_Codes_assign_21 rfl ?_
    refine kw_iload_n C d_Codes_assign_22 rfl ?_
    refine kw_iload C d_Codes_assign_23 rfl ?_
    refine kw_iadd C d_Codes_assign_25 ?_
    refine kw_leti (fun x38 => ?_)
    refine kw_iald C hr0 d_Codes_assign_26 ?_
    refine kw_leti (fun x39 => ?_)
    refine kw_dup2 C d_Codes_assign_27 rfl rfl ?_
    refine kw_iald C (Or.inl ⟨ho37.1, ho37.2.1⟩) d_Codes_assign_28 ?_
    refine kw_iconst (v := 1) C d_Codes_assign_29 (by decide) ?_
    refine kw_iadd C d_Codes_assign_30 ?_
    refine kw_iast C ho37 d_Codes_assign_31 (fun σ40 => ?_)
    refine kw_iincL (L2 := fun x41 => [some (.ref t), some (.ref r0), some (.int a1), some (.int a2), some (.int x41), none]) C d_Codes_assign_32 (by decide) rfl (fun _ => rfl) (fun x41 => ?_)
    refine kw_goto (tgt := 11) C d_Codes_assign_35 (by decide) ?_
    exact kw_wk (hk3 x41 σ40) ⟨Or.inr rfl, Or.inr rfl, Or.inr rfl, Or.inr rfl, Or.inr rfl, Or.inl rfl, trivial⟩
/-! Tape_add -/
def rm_Tape_add : Room := { frames := 0, cells := 0, slots := 0, locals := 0 }
def F_Tape_add (n : Nat) (t : Nat) (a0 : Int32) (σ : Mm) : Option (Mm) :=
kf_j (α := Unit) (fun x2 σ3 =>
some σ3) fun k1 =>
if 65536 ≤ (gS σ (64 * t + 1)) then (
k1 () σ) else (
Option.bind (gR σ (64 * t + 0)) fun o4 =>
kf_in (gS σ (64 * t + 1)) (mm_kd o4).2.2 <| kf_let (pB σ o4 (gS σ (64 * t + 1)).toNatClampNeg (a0 &&& 255)) fun σ5 =>
kf_let (pS σ5 (64 * t + 1) ((gS σ5 (64 * t + 1)) + 1)) fun σ6 =>
k1 () σ6)
theorem d_Tape_add_0 : decode prog_10_method_3_code 0 = .ok (.aload_n 0, 1) := by decide +kernel
theorem d_Tape_add_1 : decode prog_10_method_3_code 1 = .ok (.getfield 14, 3) := by decide +kernel
theorem d_Tape_add_4 : decode prog_10_method_3_code 4 = .ok (.ldc 9, 2) := by decide +kernel
theorem d_Tape_add_6 : decode prog_10_method_3_code 6 = .ok (.if_icmp .ge 27, 3) := by decide +kernel
theorem d_Tape_add_9 : decode prog_10_method_3_code 9 = .ok (.aload_n 0, 1) := by decide +kernel
theorem d_Tape_add_10 : decode prog_10_method_3_code 10 = .ok (.getfield 10, 3) := by decide +kernel
theorem d_Tape_add_13 : decode prog_10_method_3_code 13 = .ok (.aload_n 0, 1) := by decide +kernel
theorem d_Tape_add_14 : decode prog_10_method_3_code 14 = .ok (.getfield 14, 3) := by decide +kernel
theorem d_Tape_add_17 : decode prog_10_method_3_code 17 = .ok (.iload_n 1, 1) := by decide +kernel
theorem d_Tape_add_18 : decode prog_10_method_3_code 18 = .ok (.sipush 255, 3) := by decide +kernel
theorem d_Tape_add_21 : decode prog_10_method_3_code 21 = .ok (.iand, 1) := by decide +kernel
theorem d_Tape_add_22 : decode prog_10_method_3_code 22 = .ok (.iastore, 1) := by decide +kernel
theorem d_Tape_add_23 : decode prog_10_method_3_code 23 = .ok (.aload_n 0, 1) := by decide +kernel
theorem d_Tape_add_24 : decode prog_10_method_3_code 24 = .ok (.dup, 1) := by decide +kernel
theorem d_Tape_add_25 : decode prog_10_method_3_code 25 = .ok (.getfield 14, 3) := by decide +kernel
theorem d_Tape_add_28 : decode prog_10_method_3_code 28 = .ok (.iconst 1, 1) := by decide +kernel
theorem d_Tape_add_29 : decode prog_10_method_3_code 29 = .ok (.iadd, 1) := by decide +kernel
theorem d_Tape_add_30 : decode prog_10_method_3_code 30 = .ok (.putfield 14, 3) := by decide +kernel
theorem d_Tape_add_33 : decode prog_10_method_3_code 33 = .ok (.return_, 1) := by decide +kernel
set_option maxRecDepth 100000 in
set_option maxHeartbeats 4000000 in
theorem c_Tape_add {l0 : Launch} (hl : l0.stackTraces = false) (n : Nat) (ids : List Nat) {t : Nat} (ht : mm_ok ids t 1 1) (a0 : Int32) (σ : Mm) : kw_C l0 y_Tape_add (Cond.code y_Tape_add prog_10_method_3_code 2 none :: kw_Ts) rm_Tape_add kw_ov ids [] [.ref t, .int a0] σ (F_Tape_add n t a0 σ) := by
  refine kw_start (L0 := [some (.ref t), some (.int a0)]) hl (by decide +kernel) (Nat.le_of_ble_eq_true rfl) rfl (fun Γ ad C Ce => ?_)
  unfold F_Tape_add
  refine kw_aload_n C d_Tape_add_0 rfl ?_
  refine kw_getI C fi_Tape_14 (Or.inl rfl) ht d_Tape_add_1 ?_
  refine kw_ldc (v := 65536) C d_Tape_add_4 k_Tape_9 ?_
  refine kw_j (α := Unit) (pcj := 33) (Lj := fun x2 => [none, none]) (stj := fun x2 => []) (fun x2 σ3 => ?_) (fun k1 hk1 => ?_)
  · exact kw_vret C Ce rfl (by simp) (fun _ _ => rfl) (Nat.le_of_ble_eq_true rfl) (Nat.le_of_ble_eq_true rfl) rfl d_Tape_add_33
  · refine kw_icmp_ge (tgt := 33) C d_Tape_add_6 (by decide) ?_ ?_
    · exact kw_wk (hk1 () σ) ⟨Or.inl rfl, Or.inl rfl, trivial⟩
    · refine kw_aload_n C d_Tape_add_9 rfl ?_
      refine kw_getR C fi_Tape_10 rfl rfl ht d_Tape_add_10 (fun o4 ho4 => ?_)
      refine kw_aload_n C d_Tape_add_13 rfl ?_
      refine kw_getI C fi_Tape_14 (Or.inl rfl) ht d_Tape_add_14 ?_
      refine kw_iload_n C d_Tape_add_17 rfl ?_
      refine kw_sipush (v := 255) C d_Tape_add_18 (by decide) ?_
      refine kw_iand C d_Tape_add_21 ?_
      refine kw_iast C ho4 d_Tape_add_22 (fun σ5 => ?_)
      refine kw_aload_n C d_Tape_add_23 rfl ?_
      refine kw_dup C d_Tape_add_24 rfl ?_
      refine kw_getI C fi_Tape_14 (Or.inl rfl) ht d_Tape_add_25 ?_
      refine kw_iconst (v := 1) C d_Tape_add_28 (by decide) ?_
      refine kw_iadd C d_Tape_add_29 ?_
      refine kw_putI C fi_Tape_14 rfl ht d_Tape_add_30 (fun σ6 => ?_)
      exact kw_wk (hk1 () σ6) ⟨Or.inl rfl, Or.inl rfl, trivial⟩
/-! Tape_addPair -/
def rm_Tape_addPair : Room := { frames := 1, cells := 0, slots := 0, locals := 21 }
def F_Tape_addPair (n : Nat) (t : Nat) (a0 : Int32) (σ : Mm) : Option (Mm) :=
Option.bind (F_Tape_add n t (a0 >>> (8 &&& 31)) σ) fun σ1 =>
Option.bind (F_Tape_add n t a0 σ1) fun σ2 =>
some σ2
theorem d_Tape_addPair_0 : decode prog_10_method_4_code 0 = .ok (.aload_n 0, 1) := by decide +kernel
theorem d_Tape_addPair_1 : decode prog_10_method_4_code 1 = .ok (.iload_n 1, 1) := by decide +kernel
theorem d_Tape_addPair_2 : decode prog_10_method_4_code 2 = .ok (.bipush 8, 2) := by decide +kernel
theorem d_Tape_addPair_4 : decode prog_10_method_4_code 4 = .ok (.ishr, 1) := by decide +kernel
theorem d_Tape_addPair_5 : decode prog_10_method_4_code 5 = .ok (.invokevirtual 26, 3) := by decide +kernel
theorem d_Tape_addPair_8 : decode prog_10_method_4_code 8 = .ok (.aload_n 0, 1) := by decide +kernel
theorem d_Tape_addPair_9 : decode prog_10_method_4_code 9 = .ok (.iload_n 1, 1) := by decide +kernel
theorem d_Tape_addPair_10 : decode prog_10_method_4_code 10 = .ok (.invokevirtual 26, 3) := by decide +kernel
theorem d_Tape_addPair_13 : decode prog_10_method_4_code 13 = .ok (.return_, 1) := by decide +kernel
set_option maxRecDepth 100000 in
set_option maxHeartbeats 4000000 in
theorem c_Tape_addPair {l0 : Launch} (hl : l0.stackTraces = false) (n : Nat) (ids : List Nat) {t : Nat} (ht : mm_ok ids t 1 1) (a0 : Int32) (σ : Mm) : kw_C l0 y_Tape_addPair (Cond.code y_Tape_addPair prog_10_method_4_code 2 none :: kw_Ts) rm_Tape_addPair kw_ov ids [] [.ref t, .int a0] σ (F_Tape_addPair n t a0 σ) := by
  refine kw_start (L0 := [some (.ref t), some (.int a0)]) hl (by decide +kernel) (Nat.le_of_ble_eq_true rfl) rfl (fun Γ ad C Ce => ?_)
  unfold F_Tape_addPair
  refine kw_aload_n C d_Tape_addPair_0 rfl ?_
  refine kw_iload_n C d_Tape_addPair_1 rfl ?_
  refine kw_bipush (v := 8) C d_Tape_addPair_2 (by decide) ?_
  refine kw_ishr C d_Tape_addPair_4 ?_
  refine kw_callVv (cl' := 0) (sl' := 0) (As := [.int (a0 >>> (8 &&& 31))]) C (c_Tape_add hl n ids ht (a0 >>> (8 &&& 31)) σ) mi_Tape_26 v_Tape_add ⟨_, _, rfl⟩ ht ⟨Nat.le_of_ble_eq_true rfl, Nat.le_of_ble_eq_true rfl⟩ (Nat.le_of_ble_eq_true rfl) ⟨Nat.le_of_ble_eq_true rfl, Nat.le_of_ble_eq_true rfl⟩ ⟨rfl, rfl⟩ rfl d_Tape_addPair_5 (fun σ1 => ?_)
  refine kw_aload_n C d_Tape_addPair_8 rfl ?_
  refine kw_iload_n C d_Tape_addPair_9 rfl ?_
  refine kw_callVv (cl' := 0) (sl' := 0) (As := [.int a0]) C (c_Tape_add hl n ids ht a0 σ1) mi_Tape_26 v_Tape_add ⟨_, _, rfl⟩ ht ⟨Nat.le_of_ble_eq_true rfl, Nat.le_of_ble_eq_true rfl⟩ (Nat.le_of_ble_eq_true rfl) ⟨Nat.le_of_ble_eq_true rfl, Nat.le_of_ble_eq_true rfl⟩ ⟨rfl, rfl⟩ rfl d_Tape_addPair_10 (fun σ2 => ?_)
  exact kw_vret C Ce rfl (by simp) (fun _ _ => rfl) (Nat.le_of_ble_eq_true rfl) (Nat.le_of_ble_eq_true rfl) rfl d_Tape_addPair_13
/-! Tape_addNumber -/
def rm_Tape_addNumber : Room := { frames := 2, cells := 0, slots := 0, locals := 42 }
def F_Tape_addNumber (n : Nat) (t : Nat) (a0 : Int32) (σ : Mm) : Option (Mm) :=
Option.bind (F_Tape_addPair n t (a0 >>> (16 &&& 31)) σ) fun σ1 =>
Option.bind (F_Tape_addPair n t a0 σ1) fun σ2 =>
some σ2
theorem d_Tape_addNumber_0 : decode prog_10_method_5_code 0 = .ok (.aload_n 0, 1) := by decide +kernel
theorem d_Tape_addNumber_1 : decode prog_10_method_5_code 1 = .ok (.iload_n 1, 1) := by decide +kernel
theorem d_Tape_addNumber_2 : decode prog_10_method_5_code 2 = .ok (.bipush 16, 2) := by decide +kernel
theorem d_Tape_addNumber_4 : decode prog_10_method_5_code 4 = .ok (.ishr, 1) := by decide +kernel
theorem d_Tape_addNumber_5 : decode prog_10_method_5_code 5 = .ok (.invokevirtual 30, 3) := by decide +kernel
theorem d_Tape_addNumber_8 : decode prog_10_method_5_code 8 = .ok (.aload_n 0, 1) := by decide +kernel
theorem d_Tape_addNumber_9 : decode prog_10_method_5_code 9 = .ok (.iload_n 1, 1) := by decide +kernel
theorem d_Tape_addNumber_10 : decode prog_10_method_5_code 10 = .ok (.invokevirtual 30, 3) := by decide +kernel
theorem d_Tape_addNumber_13 : decode prog_10_method_5_code 13 = .ok (.return_, 1) := by decide +kernel
set_option maxRecDepth 100000 in
set_option maxHeartbeats 4000000 in
theorem c_Tape_addNumber {l0 : Launch} (hl : l0.stackTraces = false) (n : Nat) (ids : List Nat) {t : Nat} (ht : mm_ok ids t 1 1) (a0 : Int32) (σ : Mm) : kw_C l0 y_Tape_addNumber (Cond.code y_Tape_addNumber prog_10_method_5_code 2 none :: kw_Ts) rm_Tape_addNumber kw_ov ids [] [.ref t, .int a0] σ (F_Tape_addNumber n t a0 σ) := by
  refine kw_start (L0 := [some (.ref t), some (.int a0)]) hl (by decide +kernel) (Nat.le_of_ble_eq_true rfl) rfl (fun Γ ad C Ce => ?_)
  unfold F_Tape_addNumber
  refine kw_aload_n C d_Tape_addNumber_0 rfl ?_
  refine kw_iload_n C d_Tape_addNumber_1 rfl ?_
  refine kw_bipush (v := 16) C d_Tape_addNumber_2 (by decide) ?_
  refine kw_ishr C d_Tape_addNumber_4 ?_
  refine kw_callVv (cl' := 0) (sl' := 0) (As := [.int (a0 >>> (16 &&& 31))]) C (c_Tape_addPair hl n ids ht (a0 >>> (16 &&& 31)) σ) mi_Tape_30 v_Tape_addPair ⟨_, _, rfl⟩ ht ⟨Nat.le_of_ble_eq_true rfl, Nat.le_of_ble_eq_true rfl⟩ (Nat.le_of_ble_eq_true rfl) ⟨Nat.le_of_ble_eq_true rfl, Nat.le_of_ble_eq_true rfl⟩ ⟨rfl, rfl⟩ rfl d_Tape_addNumber_5 (fun σ1 => ?_)
  refine kw_aload_n C d_Tape_addNumber_8 rfl ?_
  refine kw_iload_n C d_Tape_addNumber_9 rfl ?_
  refine kw_callVv (cl' := 0) (sl' := 0) (As := [.int a0]) C (c_Tape_addPair hl n ids ht a0 σ1) mi_Tape_30 v_Tape_addPair ⟨_, _, rfl⟩ ht ⟨Nat.le_of_ble_eq_true rfl, Nat.le_of_ble_eq_true rfl⟩ (Nat.le_of_ble_eq_true rfl) ⟨Nat.le_of_ble_eq_true rfl, Nat.le_of_ble_eq_true rfl⟩ ⟨rfl, rfl⟩ rfl d_Tape_addNumber_10 (fun σ2 => ?_)
  exact kw_vret C Ce rfl (by simp) (fun _ _ => rfl) (Nat.le_of_ble_eq_true rfl) (Nat.le_of_ble_eq_true rfl) rfl d_Tape_addNumber_13
/-! PF_feed -/
def rm_PF_feed : Room := { frames := 6, cells := 1, slots := 6, locals := 89 }
def F_PF_feed (n : Nat) (t : Nat) (a0 : Int32) (a1 : Int32) (a2 : Int32) (a3 : Int32) (a4 : Int32) (σ : Mm) : Option ((Int32 ⊕ String) × Mm) :=
Option.bind (gR σ (64 * t + 0)) fun o1 =>
if (gS σ (64 * o1 + 1)) ≤ 65516 then (
Option.bind (gR σ (64 * t + 0)) fun o2 =>
Option.bind (F_Tape_addNumber n o2 a0 σ) fun σ3 =>
Option.bind (gR σ3 (64 * t + 0)) fun o4 =>
Option.bind (F_Tape_addNumber n o4 a1 σ3) fun σ5 =>
Option.bind (gR σ5 (64 * t + 0)) fun o6 =>
Option.bind (F_Tape_addNumber n o6 a2 σ5) fun σ7 =>
Option.bind (gR σ7 (64 * t + 0)) fun o8 =>
Option.bind (F_Tape_addNumber n o8 a3 σ7) fun σ9 =>
Option.bind (gR σ9 (64 * t + 0)) fun o10 =>
Option.bind (F_Tape_addNumber n o10 a4 σ9) fun σ11 =>
Option.bind (gR σ11 (64 * t + 0)) fun o12 =>
some (.inl (gS σ11 (64 * o12 + 1)), σ11)) else (
some (.inr "java/lang/UnsupportedOperationException", σ))
theorem d_PF_feed_0 : decode prog_1_method_2_code 0 = .ok (.aload_n 0, 1) := by decide +kernel
theorem d_PF_feed_1 : decode prog_1_method_2_code 1 = .ok (.getfield 10, 3) := by decide +kernel
theorem d_PF_feed_4 : decode prog_1_method_2_code 4 = .ok (.getfield 76, 3) := by decide +kernel
theorem d_PF_feed_7 : decode prog_1_method_2_code 7 = .ok (.ldc 80, 2) := by decide +kernel
theorem d_PF_feed_9 : decode prog_1_method_2_code 9 = .ok (.if_icmp .le 11, 3) := by decide +kernel
theorem d_PF_feed_12 : decode prog_1_method_2_code 12 = .ok (.new 81, 3) := by decide +kernel
theorem d_PF_feed_15 : decode prog_1_method_2_code 15 = .ok (.dup, 1) := by decide +kernel
theorem d_PF_feed_16 : decode prog_1_method_2_code 16 = .ok (.invokespecial 83, 3) := by decide +kernel
theorem d_PF_feed_19 : decode prog_1_method_2_code 19 = .ok (.athrow, 1) := by decide +kernel
theorem d_PF_feed_20 : decode prog_1_method_2_code 20 = .ok (.aload_n 0, 1) := by decide +kernel
theorem d_PF_feed_21 : decode prog_1_method_2_code 21 = .ok (.getfield 10, 3) := by decide +kernel
theorem d_PF_feed_24 : decode prog_1_method_2_code 24 = .ok (.iload_n 1, 1) := by decide +kernel
theorem d_PF_feed_25 : decode prog_1_method_2_code 25 = .ok (.invokevirtual 84, 3) := by decide +kernel
theorem d_PF_feed_28 : decode prog_1_method_2_code 28 = .ok (.aload_n 0, 1) := by decide +kernel
theorem d_PF_feed_29 : decode prog_1_method_2_code 29 = .ok (.getfield 10, 3) := by decide +kernel
theorem d_PF_feed_32 : decode prog_1_method_2_code 32 = .ok (.iload_n 2, 1) := by decide +kernel
theorem d_PF_feed_33 : decode prog_1_method_2_code 33 = .ok (.invokevirtual 84, 3) := by decide +kernel
theorem d_PF_feed_36 : decode prog_1_method_2_code 36 = .ok (.aload_n 0, 1) := by decide +kernel
theorem d_PF_feed_37 : decode prog_1_method_2_code 37 = .ok (.getfield 10, 3) := by decide +kernel
theorem d_PF_feed_40 : decode prog_1_method_2_code 40 = .ok (.iload_n 3, 1) := by decide +kernel
theorem d_PF_feed_41 : decode prog_1_method_2_code 41 = .ok (.invokevirtual 84, 3) := by decide +kernel
theorem d_PF_feed_44 : decode prog_1_method_2_code 44 = .ok (.aload_n 0, 1) := by decide +kernel
theorem d_PF_feed_45 : decode prog_1_method_2_code 45 = .ok (.getfield 10, 3) := by decide +kernel
theorem d_PF_feed_48 : decode prog_1_method_2_code 48 = .ok (.iload 4, 2) := by decide +kernel
theorem d_PF_feed_50 : decode prog_1_method_2_code 50 = .ok (.invokevirtual 84, 3) := by decide +kernel
theorem d_PF_feed_53 : decode prog_1_method_2_code 53 = .ok (.aload_n 0, 1) := by decide +kernel
theorem d_PF_feed_54 : decode prog_1_method_2_code 54 = .ok (.getfield 10, 3) := by decide +kernel
theorem d_PF_feed_57 : decode prog_1_method_2_code 57 = .ok (.iload 5, 2) := by decide +kernel
theorem d_PF_feed_59 : decode prog_1_method_2_code 59 = .ok (.invokevirtual 84, 3) := by decide +kernel
theorem d_PF_feed_62 : decode prog_1_method_2_code 62 = .ok (.aload_n 0, 1) := by decide +kernel
theorem d_PF_feed_63 : decode prog_1_method_2_code 63 = .ok (.getfield 10, 3) := by decide +kernel
theorem d_PF_feed_66 : decode prog_1_method_2_code 66 = .ok (.getfield 76, 3) := by decide +kernel
theorem d_PF_feed_69 : decode prog_1_method_2_code 69 = .ok (.ireturn, 1) := by decide +kernel
set_option maxRecDepth 100000 in
set_option maxHeartbeats 4000000 in
theorem c_PF_feed {l0 : Launch} (hl : l0.stackTraces = false) (n : Nat) (ids : List Nat) {t : Nat} (ht : mm_ok ids t 1 0) (a0 : Int32) (a1 : Int32) (a2 : Int32) (a3 : Int32) (a4 : Int32) (σ : Mm) : kw_C l0 y_PF_feed (Cond.code y_PF_feed prog_1_method_2_code 6 (some .int) :: kw_Ts) rm_PF_feed kw_oti ids [] [.ref t, .int a0, .int a1, .int a2, .int a3, .int a4] σ (F_PF_feed n t a0 a1 a2 a3 a4 σ) := by
  refine kw_start (L0 := [some (.ref t), some (.int a0), some (.int a1), some (.int a2), some (.int a3), some (.int a4)]) hl (by decide +kernel) (Nat.le_of_ble_eq_true rfl) rfl (fun Γ ad C Ce => ?_)
  unfold F_PF_feed
  refine kw_aload_n C d_PF_feed_0 rfl ?_
  refine kw_getR C fi_PF_10 rfl rfl ht d_PF_feed_1 (fun o1 ho1 => ?_)
  refine kw_getI C fi_PF_76 (Or.inl rfl) ho1 d_PF_feed_4 ?_
  refine kw_ldc (v := 65516) C d_PF_feed_7 k_PF_80 ?_
  refine kw_icmp_le (tgt := 20) C d_PF_feed_9 (by decide) ?_ ?_
  · refine kw_aload_n C d_PF_feed_20 rfl ?_
    refine kw_getR C fi_PF_10 rfl rfl ht d_PF_feed_21 (fun o2 ho2 => ?_)
    refine kw_iload_n C d_PF_feed_24 rfl ?_
    refine kw_callVv (cl' := 0) (sl' := 0) (As := [.int a0]) C (c_Tape_addNumber hl n ids ho2 a0 σ) mi_PF_84 v_Tape_addNumber ⟨_, _, rfl⟩ ho2 ⟨Nat.le_of_ble_eq_true rfl, Nat.le_of_ble_eq_true rfl⟩ (Nat.le_of_ble_eq_true rfl) ⟨Nat.le_of_ble_eq_true rfl, Nat.le_of_ble_eq_true rfl⟩ ⟨rfl, rfl⟩ rfl d_PF_feed_25 (fun σ3 => ?_)
    refine kw_aload_n C d_PF_feed_28 rfl ?_
    refine kw_getR C fi_PF_10 rfl rfl ht d_PF_feed_29 (fun o4 ho4 => ?_)
    refine kw_iload_n C d_PF_feed_32 rfl ?_
    refine kw_callVv (cl' := 0) (sl' := 0) (As := [.int a1]) C (c_Tape_addNumber hl n ids ho4 a1 σ3) mi_PF_84 v_Tape_addNumber ⟨_, _, rfl⟩ ho4 ⟨Nat.le_of_ble_eq_true rfl, Nat.le_of_ble_eq_true rfl⟩ (Nat.le_of_ble_eq_true rfl) ⟨Nat.le_of_ble_eq_true rfl, Nat.le_of_ble_eq_true rfl⟩ ⟨rfl, rfl⟩ rfl d_PF_feed_33 (fun σ5 => ?_)
    refine kw_aload_n C d_PF_feed_36 rfl ?_
    refine kw_getR C fi_PF_10 rfl rfl ht d_PF_feed_37 (fun o6 ho6 => ?_)
    refine kw_iload_n C d_PF_feed_40 rfl ?_
    refine kw_callVv (cl' := 0) (sl' := 0) (As := [.int a2]) C (c_Tape_addNumber hl n ids ho6 a2 σ5) mi_PF_84 v_Tape_addNumber ⟨_, _, rfl⟩ ho6 ⟨Nat.le_of_ble_eq_true rfl, Nat.le_of_ble_eq_true rfl⟩ (Nat.le_of_ble_eq_true rfl) ⟨Nat.le_of_ble_eq_true rfl, Nat.le_of_ble_eq_true rfl⟩ ⟨rfl, rfl⟩ rfl d_PF_feed_41 (fun σ7 => ?_)
    refine kw_aload_n C d_PF_feed_44 rfl ?_
    refine kw_getR C fi_PF_10 rfl rfl ht d_PF_feed_45 (fun o8 ho8 => ?_)
    refine kw_iload C d_PF_feed_48 rfl ?_
    refine kw_callVv (cl' := 0) (sl' := 0) (As := [.int a3]) C (c_Tape_addNumber hl n ids ho8 a3 σ7) mi_PF_84 v_Tape_addNumber ⟨_, _, rfl⟩ ho8 ⟨Nat.le_of_ble_eq_true rfl, Nat.le_of_ble_eq_true rfl⟩ (Nat.le_of_ble_eq_true rfl) ⟨Nat.le_of_ble_eq_true rfl, Nat.le_of_ble_eq_true rfl⟩ ⟨rfl, rfl⟩ rfl d_PF_feed_50 (fun σ9 => ?_)
    refine kw_aload_n C d_PF_feed_53 rfl ?_
    refine kw_getR C fi_PF_10 rfl rfl ht d_PF_feed_54 (fun o10 ho10 => ?_)
    refine kw_iload C d_PF_feed_57 rfl ?_
    refine kw_callVv (cl' := 0) (sl' := 0) (As := [.int a4]) C (c_Tape_addNumber hl n ids ho10 a4 σ9) mi_PF_84 v_Tape_addNumber ⟨_, _, rfl⟩ ho10 ⟨Nat.le_of_ble_eq_true rfl, Nat.le_of_ble_eq_true rfl⟩ (Nat.le_of_ble_eq_true rfl) ⟨Nat.le_of_ble_eq_true rfl, Nat.le_of_ble_eq_true rfl⟩ ⟨rfl, rfl⟩ rfl d_PF_feed_59 (fun σ11 => ?_)
    refine kw_aload_n C d_PF_feed_62 rfl ?_
    refine kw_getR C fi_PF_10 rfl rfl ht d_PF_feed_63 (fun o12 ho12 => ?_)
    refine kw_getI C fi_PF_76 (Or.inl rfl) ho12 d_PF_feed_66 ?_
    exact kw_iret C Ce rfl (by simp) (fun _ _ => rfl) (Nat.le_of_ble_eq_true rfl) (Nat.le_of_ble_eq_true rfl) rfl d_PF_feed_69
  · exact kw_throw0 C Ce ti_PF_81_83 (by simp) (fun _ _ => rfl) (Nat.le_of_ble_eq_true rfl) (Nat.le_of_ble_eq_true rfl) (Nat.le_of_ble_eq_true rfl) (Nat.le_of_ble_eq_true rfl) d_PF_feed_12 d_PF_feed_15 d_PF_feed_16 d_PF_feed_19 rfl
/-! PF_end -/
def rm_PF_end : Room := { frames := 6, cells := 1, slots := 6, locals := 89 }
def F_PF_end (n : Nat) (t : Nat) (a0 : Int32) (σ : Mm) : Option ((Unit ⊕ String) × Mm) :=
kf_j (α := Unit) (fun x2 σ3 =>
some (.inr "java/lang/IllegalArgumentException", σ3)) fun k1 =>
if a0 < 0 then (
k1 () σ) else (
Option.bind (gR σ (64 * t + 0)) fun o4 =>
if a0 ≤ (gS σ (64 * o4 + 1)) then (
Option.bind (gR σ (64 * t + 0)) fun o5 =>
kf_let (pS σ (64 * o5 + 1) a0) fun σ6 =>
some (.inl (), σ6)) else (
k1 () σ))
theorem d_PF_end_0 : decode prog_1_method_3_code 0 = .ok (.iload_n 1, 1) := by decide +kernel
theorem d_PF_end_1 : decode prog_1_method_3_code 1 = .ok (.ifCond .lt 14, 3) := by decide +kernel
theorem d_PF_end_4 : decode prog_1_method_3_code 4 = .ok (.iload_n 1, 1) := by decide +kernel
theorem d_PF_end_5 : decode prog_1_method_3_code 5 = .ok (.aload_n 0, 1) := by decide +kernel
theorem d_PF_end_6 : decode prog_1_method_3_code 6 = .ok (.getfield 10, 3) := by decide +kernel
theorem d_PF_end_9 : decode prog_1_method_3_code 9 = .ok (.getfield 76, 3) := by decide +kernel
theorem d_PF_end_12 : decode prog_1_method_3_code 12 = .ok (.if_icmp .le 11, 3) := by decide +kernel
theorem d_PF_end_15 : decode prog_1_method_3_code 15 = .ok (.new 88, 3) := by decide +kernel
theorem d_PF_end_18 : decode prog_1_method_3_code 18 = .ok (.dup, 1) := by decide +kernel
theorem d_PF_end_19 : decode prog_1_method_3_code 19 = .ok (.invokespecial 90, 3) := by decide +kernel
theorem d_PF_end_22 : decode prog_1_method_3_code 22 = .ok (.athrow, 1) := by decide +kernel
theorem d_PF_end_23 : decode prog_1_method_3_code 23 = .ok (.aload_n 0, 1) := by decide +kernel
theorem d_PF_end_24 : decode prog_1_method_3_code 24 = .ok (.getfield 10, 3) := by decide +kernel
theorem d_PF_end_27 : decode prog_1_method_3_code 27 = .ok (.iload_n 1, 1) := by decide +kernel
theorem d_PF_end_28 : decode prog_1_method_3_code 28 = .ok (.putfield 76, 3) := by decide +kernel
theorem d_PF_end_31 : decode prog_1_method_3_code 31 = .ok (.return_, 1) := by decide +kernel
set_option maxRecDepth 100000 in
set_option maxHeartbeats 4000000 in
theorem c_PF_end {l0 : Launch} (hl : l0.stackTraces = false) (n : Nat) (ids : List Nat) {t : Nat} (ht : mm_ok ids t 1 0) (a0 : Int32) (σ : Mm) : kw_C l0 y_PF_end (Cond.code y_PF_end prog_1_method_3_code 2 none :: kw_Ts) rm_PF_end kw_otv ids [] [.ref t, .int a0] σ (F_PF_end n t a0 σ) := by
  refine kw_start (L0 := [some (.ref t), some (.int a0)]) hl (by decide +kernel) (Nat.le_of_ble_eq_true rfl) rfl (fun Γ ad C Ce => ?_)
  unfold F_PF_end
  refine kw_iload_n C d_PF_end_0 rfl ?_
  refine kw_j (α := Unit) (pcj := 15) (Lj := fun x2 => [none, none]) (stj := fun x2 => []) (fun x2 σ3 => ?_) (fun k1 hk1 => ?_)
  · exact kw_throw0 C Ce ti_PF_88_90 (by simp) (fun _ _ => rfl) (Nat.le_of_ble_eq_true rfl) (Nat.le_of_ble_eq_true rfl) (Nat.le_of_ble_eq_true rfl) (Nat.le_of_ble_eq_true rfl) d_PF_end_15 d_PF_end_18 d_PF_end_19 d_PF_end_22 rfl
  · refine kw_if_lt (tgt := 15) C d_PF_end_1 (by decide) ?_ ?_
    · exact kw_wk (hk1 () σ) ⟨Or.inl rfl, Or.inl rfl, trivial⟩
    · refine kw_iload_n C d_PF_end_4 rfl ?_
      refine kw_aload_n C d_PF_end_5 rfl ?_
      refine kw_getR C fi_PF_10 rfl rfl ht d_PF_end_6 (fun o4 ho4 => ?_)
      refine kw_getI C fi_PF_76 (Or.inl rfl) ho4 d_PF_end_9 ?_
      refine kw_icmp_le (tgt := 23) C d_PF_end_12 (by decide) ?_ ?_
      · refine kw_aload_n C d_PF_end_23 rfl ?_
        refine kw_getR C fi_PF_10 rfl rfl ht d_PF_end_24 (fun o5 ho5 => ?_)
        refine kw_iload_n C d_PF_end_27 rfl ?_
        refine kw_putI C fi_PF_76 rfl ho5 d_PF_end_28 (fun σ6 => ?_)
        exact kw_vret C Ce rfl (by simp) (fun _ _ => rfl) (Nat.le_of_ble_eq_true rfl) (Nat.le_of_ble_eq_true rfl) rfl d_PF_end_31
      · exact kw_wk (hk1 () σ) ⟨Or.inl rfl, Or.inl rfl, trivial⟩
/-! Fault_clear -/
def rm_Fault_clear : Room := { frames := 0, cells := 0, slots := 0, locals := 0 }
def F_Fault_clear (n : Nat) (t : Nat) (σ : Mm) : Option (Mm) :=
kf_let (pS σ (64 * t + 0) 0) fun σ1 =>
kf_let (pS σ1 (64 * t + 1) (-1)) fun σ2 =>
some σ2
theorem d_Fault_clear_0 : decode prog_3_method_2_code 0 = .ok (.aload_n 0, 1) := by decide +kernel
theorem d_Fault_clear_1 : decode prog_3_method_2_code 1 = .ok (.iconst 0, 1) := by decide +kernel
theorem d_Fault_clear_2 : decode prog_3_method_2_code 2 = .ok (.putfield 9, 3) := by decide +kernel
theorem d_Fault_clear_5 : decode prog_3_method_2_code 5 = .ok (.aload_n 0, 1) := by decide +kernel
theorem d_Fault_clear_6 : decode prog_3_method_2_code 6 = .ok (.iconst (-1), 1) := by decide +kernel
theorem d_Fault_clear_7 : decode prog_3_method_2_code 7 = .ok (.putfield 15, 3) := by decide +kernel
theorem d_Fault_clear_10 : decode prog_3_method_2_code 10 = .ok (.return_, 1) := by decide +kernel
set_option maxRecDepth 100000 in
set_option maxHeartbeats 4000000 in
theorem c_Fault_clear {l0 : Launch} (hl : l0.stackTraces = false) (n : Nat) (ids : List Nat) {t : Nat} (ht : mm_ok ids t 1 2)  (σ : Mm) : kw_C l0 y_Fault_clear (Cond.code y_Fault_clear prog_3_method_2_code 1 none :: kw_Ts) rm_Fault_clear kw_ov ids [] [.ref t] σ (F_Fault_clear n t σ) := by
  refine kw_start (L0 := [some (.ref t)]) hl (by decide +kernel) (Nat.le_of_ble_eq_true rfl) rfl (fun Γ ad C Ce => ?_)
  unfold F_Fault_clear
  refine kw_aload_n C d_Fault_clear_0 rfl ?_
  refine kw_iconst (v := 0) C d_Fault_clear_1 (by decide) ?_
  refine kw_putI C fi_Fault_9 rfl ht d_Fault_clear_2 (fun σ1 => ?_)
  refine kw_aload_n C d_Fault_clear_5 rfl ?_
  refine kw_iconst (v := -1) C d_Fault_clear_6 (by decide) ?_
  refine kw_putI C fi_Fault_15 rfl ht d_Fault_clear_7 (fun σ2 => ?_)
  exact kw_vret C Ce rfl (by simp) (fun _ _ => rfl) (Nat.le_of_ble_eq_true rfl) (Nat.le_of_ble_eq_true rfl) rfl d_Fault_clear_10
/-! PackedBits_clear -/
def rm_PackedBits_clear : Room := { frames := 0, cells := 0, slots := 0, locals := 0 }
def F_PackedBits_clear (n : Nat) (t : Nat) (σ : Mm) : Option (Mm) :=
kf_let (pS σ (64 * t + 3) 0) fun σ1 =>
kf_let (pS σ1 (64 * t + 4) 0) fun σ2 =>
kf_let (pS σ2 (64 * t + 5) 0) fun σ3 =>
some σ3
theorem d_PackedBits_clear_0 : decode prog_5_method_2_code 0 = .ok (.aload_n 0, 1) := by decide +kernel
theorem d_PackedBits_clear_1 : decode prog_5_method_2_code 1 = .ok (.iconst 0, 1) := by decide +kernel
theorem d_PackedBits_clear_2 : decode prog_5_method_2_code 2 = .ok (.putfield 26, 3) := by decide +kernel
theorem d_PackedBits_clear_5 : decode prog_5_method_2_code 5 = .ok (.aload_n 0, 1) := by decide +kernel
theorem d_PackedBits_clear_6 : decode prog_5_method_2_code 6 = .ok (.iconst 0, 1) := by decide +kernel
theorem d_PackedBits_clear_7 : decode prog_5_method_2_code 7 = .ok (.putfield 30, 3) := by decide +kernel
theorem d_PackedBits_clear_10 : decode prog_5_method_2_code 10 = .ok (.aload_n 0, 1) := by decide +kernel
theorem d_PackedBits_clear_11 : decode prog_5_method_2_code 11 = .ok (.iconst 0, 1) := by decide +kernel
theorem d_PackedBits_clear_12 : decode prog_5_method_2_code 12 = .ok (.putfield 33, 3) := by decide +kernel
theorem d_PackedBits_clear_15 : decode prog_5_method_2_code 15 = .ok (.return_, 1) := by decide +kernel
set_option maxRecDepth 100000 in
set_option maxHeartbeats 4000000 in
theorem c_PackedBits_clear {l0 : Launch} (hl : l0.stackTraces = false) (n : Nat) (ids : List Nat) {t : Nat} (ht : mm_ok ids t 1 4)  (σ : Mm) : kw_C l0 y_PackedBits_clear (Cond.code y_PackedBits_clear prog_5_method_2_code 1 none :: kw_Ts) rm_PackedBits_clear kw_ov ids [] [.ref t] σ (F_PackedBits_clear n t σ) := by
  refine kw_start (L0 := [some (.ref t)]) hl (by decide +kernel) (Nat.le_of_ble_eq_true rfl) rfl (fun Γ ad C Ce => ?_)
  unfold F_PackedBits_clear
  refine kw_aload_n C d_PackedBits_clear_0 rfl ?_
  refine kw_iconst (v := 0) C d_PackedBits_clear_1 (by decide) ?_
  refine kw_putI C fi_PackedBits_26 rfl ht d_PackedBits_clear_2 (fun σ1 => ?_)
  refine kw_aload_n C d_PackedBits_clear_5 rfl ?_
  refine kw_iconst (v := 0) C d_PackedBits_clear_6 (by decide) ?_
  refine kw_putI C fi_PackedBits_30 rfl ht d_PackedBits_clear_7 (fun σ2 => ?_)
  refine kw_aload_n C d_PackedBits_clear_10 rfl ?_
  refine kw_iconst (v := 0) C d_PackedBits_clear_11 (by decide) ?_
  refine kw_putI C fi_PackedBits_33 rfl ht d_PackedBits_clear_12 (fun σ3 => ?_)
  exact kw_vret C Ce rfl (by simp) (fun _ _ => rfl) (Nat.le_of_ble_eq_true rfl) (Nat.le_of_ble_eq_true rfl) rfl d_PackedBits_clear_15
/-! Fault_refuse -/
def rm_Fault_refuse : Room := { frames := 0, cells := 0, slots := 0, locals := 0 }
def F_Fault_refuse (n : Nat) (t : Nat) (a0 : Int32) (a1 : Int32) (σ : Mm) : Option (Int32 × Mm) :=
kf_let (pS σ (64 * t + 0) a0) fun σ1 =>
kf_let (pS σ1 (64 * t + 1) a1) fun σ2 =>
kf_z 0 (some (0, σ2))
theorem d_Fault_refuse_0 : decode prog_3_method_3_code 0 = .ok (.aload_n 0, 1) := by decide +kernel
theorem d_Fault_refuse_1 : decode prog_3_method_3_code 1 = .ok (.iload_n 1, 1) := by decide +kernel
theorem d_Fault_refuse_2 : decode prog_3_method_3_code 2 = .ok (.putfield 9, 3) := by decide +kernel
theorem d_Fault_refuse_5 : decode prog_3_method_3_code 5 = .ok (.aload_n 0, 1) := by decide +kernel
theorem d_Fault_refuse_6 : decode prog_3_method_3_code 6 = .ok (.iload_n 2, 1) := by decide +kernel
theorem d_Fault_refuse_7 : decode prog_3_method_3_code 7 = .ok (.putfield 15, 3) := by decide +kernel
theorem d_Fault_refuse_10 : decode prog_3_method_3_code 10 = .ok (.iconst 0, 1) := by decide +kernel
theorem d_Fault_refuse_11 : decode prog_3_method_3_code 11 = .ok (.ireturn, 1) := by decide +kernel
set_option maxRecDepth 100000 in
set_option maxHeartbeats 4000000 in
theorem c_Fault_refuse {l0 : Launch} (hl : l0.stackTraces = false) (n : Nat) (ids : List Nat) {t : Nat} (ht : mm_ok ids t 1 2) (a0 : Int32) (a1 : Int32) (σ : Mm) : kw_C l0 y_Fault_refuse (Cond.code y_Fault_refuse prog_3_method_3_code 3 (some .boolean) :: kw_Ts) rm_Fault_refuse kw_oi ids [] [.ref t, .int a0, .int a1] σ (F_Fault_refuse n t a0 a1 σ) := by
  refine kw_start (L0 := [some (.ref t), some (.int a0), some (.int a1)]) hl (by decide +kernel) (Nat.le_of_ble_eq_true rfl) rfl (fun Γ ad C Ce => ?_)
  unfold F_Fault_refuse
  refine kw_aload_n C d_Fault_refuse_0 rfl ?_
  refine kw_iload_n C d_Fault_refuse_1 rfl ?_
  refine kw_putI C fi_Fault_9 rfl ht d_Fault_refuse_2 (fun σ1 => ?_)
  refine kw_aload_n C d_Fault_refuse_5 rfl ?_
  refine kw_iload_n C d_Fault_refuse_6 rfl ?_
  refine kw_putI C fi_Fault_15 rfl ht d_Fault_refuse_7 (fun σ2 => ?_)
  refine kw_iconst (v := 0) C d_Fault_refuse_10 (by decide) ?_
  exact kw_zret C Ce rfl (by simp) (fun _ _ => rfl) (Nat.le_of_ble_eq_true rfl) (Nat.le_of_ble_eq_true rfl) rfl d_Fault_refuse_11
/-! Tape_pair -/
def rm_Tape_pair : Room := { frames := 0, cells := 0, slots := 0, locals := 0 }
def F_Tape_pair (n : Nat) (t : Nat) (a0 : Int32) (σ : Mm) : Option (Int32 × Mm) :=
Option.bind (gR σ (64 * t + 0)) fun o1 =>
kf_in a0 (mm_kd o1).2.2 <|
Option.bind (gR σ (64 * t + 0)) fun o2 =>
kf_let (a0 + 1 : Int32) fun x3 =>
kf_in x3 (mm_kd o2).2.2 <|
some (((gB σ o1 a0.toNatClampNeg) <<< (8 &&& 31)) ||| (gB σ o2 x3.toNatClampNeg), σ)
theorem d_Tape_pair_0 : decode prog_10_method_7_code 0 = .ok (.aload_n 0, 1) := by decide +kernel
theorem d_Tape_pair_1 : decode prog_10_method_7_code 1 = .ok (.getfield 10, 3) := by decide +kernel
theorem d_Tape_pair_4 : decode prog_10_method_7_code 4 = .ok (.iload_n 1, 1) := by decide +kernel
theorem d_Tape_pair_5 : decode prog_10_method_7_code 5 = .ok (.iaload, 1) := by decide +kernel
theorem d_Tape_pair_6 : decode prog_10_method_7_code 6 = .ok (.bipush 8, 2) := by decide +kernel
theorem d_Tape_pair_8 : decode prog_10_method_7_code 8 = .ok (.ishl, 1) := by decide +kernel
theorem d_Tape_pair_9 : decode prog_10_method_7_code 9 = .ok (.aload_n 0, 1) := by decide +kernel
theorem d_Tape_pair_10 : decode prog_10_method_7_code 10 = .ok (.getfield 10, 3) := by decide +kernel
theorem d_Tape_pair_13 : decode prog_10_method_7_code 13 = .ok (.iload_n 1, 1) := by decide +kernel
theorem d_Tape_pair_14 : decode prog_10_method_7_code 14 = .ok (.iconst 1, 1) := by decide +kernel
theorem d_Tape_pair_15 : decode prog_10_method_7_code 15 = .ok (.iadd, 1) := by decide +kernel
theorem d_Tape_pair_16 : decode prog_10_method_7_code 16 = .ok (.iaload, 1) := by decide +kernel
theorem d_Tape_pair_17 : decode prog_10_method_7_code 17 = .ok (.ior, 1) := by decide +kernel
theorem d_Tape_pair_18 : decode prog_10_method_7_code 18 = .ok (.ireturn, 1) := by decide +kernel
set_option maxRecDepth 100000 in
set_option maxHeartbeats 4000000 in
theorem c_Tape_pair {l0 : Launch} (hl : l0.stackTraces = false) (n : Nat) (ids : List Nat) {t : Nat} (ht : mm_ok ids t 1 1) (a0 : Int32) (σ : Mm) : kw_C l0 y_Tape_pair (Cond.code y_Tape_pair prog_10_method_7_code 2 (some .int) :: kw_Ts) rm_Tape_pair kw_oi ids [] [.ref t, .int a0] σ (F_Tape_pair n t a0 σ) := by
  refine kw_start (L0 := [some (.ref t), some (.int a0)]) hl (by decide +kernel) (Nat.le_of_ble_eq_true rfl) rfl (fun Γ ad C Ce => ?_)
  unfold F_Tape_pair
  refine kw_aload_n C d_Tape_pair_0 rfl ?_
  refine kw_getR C fi_Tape_10 rfl rfl ht d_Tape_pair_1 (fun o1 ho1 => ?_)
  refine kw_iload_n C d_Tape_pair_4 rfl ?_
  refine kw_iald C (Or.inl ⟨ho1.1, ho1.2.1⟩) d_Tape_pair_5 ?_
  refine kw_bipush (v := 8) C d_Tape_pair_6 (by decide) ?_
  refine kw_ishl C d_Tape_pair_8 ?_
  refine kw_aload_n C d_Tape_pair_9 rfl ?_
  refine kw_getR C fi_Tape_10 rfl rfl ht d_Tape_pair_10 (fun o2 ho2 => ?_)
  refine kw_iload_n C d_Tape_pair_13 rfl ?_
  refine kw_iconst (v := 1) C d_Tape_pair_14 (by decide) ?_
  refine kw_iadd C d_Tape_pair_15 ?_
  refine kw_leti (fun x3 => ?_)
  refine kw_iald C (Or.inl ⟨ho2.1, ho2.2.1⟩) d_Tape_pair_16 ?_
  refine kw_ior C d_Tape_pair_17 ?_
  exact kw_iret C Ce rfl (by simp) (fun _ _ => rfl) (Nat.le_of_ble_eq_true rfl) (Nat.le_of_ble_eq_true rfl) rfl d_Tape_pair_18
/-! Tape_number -/
def rm_Tape_number : Room := { frames := 1, cells := 0, slots := 0, locals := 21 }
def F_Tape_number (n : Nat) (t : Nat) (a0 : Int32) (σ : Mm) : Option (Int32 × Mm) :=
kf_c2 (F_Tape_pair n t a0 σ) fun x1 σ2 =>
kf_c2 (F_Tape_pair n t (a0 + 2) σ2) fun x3 σ4 =>
some ((x1 <<< (16 &&& 31)) ||| x3, σ4)
theorem d_Tape_number_0 : decode prog_10_method_8_code 0 = .ok (.aload_n 0, 1) := by decide +kernel
theorem d_Tape_number_1 : decode prog_10_method_8_code 1 = .ok (.iload_n 1, 1) := by decide +kernel
theorem d_Tape_number_2 : decode prog_10_method_8_code 2 = .ok (.invokevirtual 33, 3) := by decide +kernel
theorem d_Tape_number_5 : decode prog_10_method_8_code 5 = .ok (.bipush 16, 2) := by decide +kernel
theorem d_Tape_number_7 : decode prog_10_method_8_code 7 = .ok (.ishl, 1) := by decide +kernel
theorem d_Tape_number_8 : decode prog_10_method_8_code 8 = .ok (.aload_n 0, 1) := by decide +kernel
theorem d_Tape_number_9 : decode prog_10_method_8_code 9 = .ok (.iload_n 1, 1) := by decide +kernel
theorem d_Tape_number_10 : decode prog_10_method_8_code 10 = .ok (.iconst 2, 1) := by decide +kernel
theorem d_Tape_number_11 : decode prog_10_method_8_code 11 = .ok (.iadd, 1) := by decide +kernel
theorem d_Tape_number_12 : decode prog_10_method_8_code 12 = .ok (.invokevirtual 33, 3) := by decide +kernel
theorem d_Tape_number_15 : decode prog_10_method_8_code 15 = .ok (.ior, 1) := by decide +kernel
theorem d_Tape_number_16 : decode prog_10_method_8_code 16 = .ok (.ireturn, 1) := by decide +kernel
set_option maxRecDepth 100000 in
set_option maxHeartbeats 4000000 in
theorem c_Tape_number {l0 : Launch} (hl : l0.stackTraces = false) (n : Nat) (ids : List Nat) {t : Nat} (ht : mm_ok ids t 1 1) (a0 : Int32) (σ : Mm) : kw_C l0 y_Tape_number (Cond.code y_Tape_number prog_10_method_8_code 2 (some .int) :: kw_Ts) rm_Tape_number kw_oi ids [] [.ref t, .int a0] σ (F_Tape_number n t a0 σ) := by
  refine kw_start (L0 := [some (.ref t), some (.int a0)]) hl (by decide +kernel) (Nat.le_of_ble_eq_true rfl) rfl (fun Γ ad C Ce => ?_)
  unfold F_Tape_number
  refine kw_aload_n C d_Tape_number_0 rfl ?_
  refine kw_iload_n C d_Tape_number_1 rfl ?_
  refine kw_callVi (cl' := 0) (sl' := 0) (As := [.int a0]) C (c_Tape_pair hl n ids ht a0 σ) mi_Tape_33 v_Tape_pair ⟨_, _, rfl⟩ ht ⟨Nat.le_of_ble_eq_true rfl, Nat.le_of_ble_eq_true rfl⟩ (Nat.le_of_ble_eq_true rfl) ⟨Nat.le_of_ble_eq_true rfl, Nat.le_of_ble_eq_true rfl⟩ ⟨rfl, rfl⟩ rfl d_Tape_number_2 (fun x1 σ2 => ?_)
  refine kw_bipush (v := 16) C d_Tape_number_5 (by decide) ?_
  refine kw_ishl C d_Tape_number_7 ?_
  refine kw_aload_n C d_Tape_number_8 rfl ?_
  refine kw_iload_n C d_Tape_number_9 rfl ?_
  refine kw_iconst (v := 2) C d_Tape_number_10 (by decide) ?_
  refine kw_iadd C d_Tape_number_11 ?_
  refine kw_callVi (cl' := 0) (sl' := 0) (As := [.int (a0 + 2)]) C (c_Tape_pair hl n ids ht (a0 + 2) σ2) mi_Tape_33 v_Tape_pair ⟨_, _, rfl⟩ ht ⟨Nat.le_of_ble_eq_true rfl, Nat.le_of_ble_eq_true rfl⟩ (Nat.le_of_ble_eq_true rfl) ⟨Nat.le_of_ble_eq_true rfl, Nat.le_of_ble_eq_true rfl⟩ ⟨rfl, rfl⟩ rfl d_Tape_number_12 (fun x3 σ4 => ?_)
  refine kw_ior C d_Tape_number_15 ?_
  exact kw_iret C Ce rfl (by simp) (fun _ _ => rfl) (Nat.le_of_ble_eq_true rfl) (Nat.le_of_ble_eq_true rfl) rfl d_Tape_number_16
/-! Pieces_isLetter -/
def rm_Pieces_isLetter : Room := { frames := 0, cells := 0, slots := 0, locals := 0 }
def F_Pieces_isLetter (n : Nat) (a0 : Int32) (σ : Mm) : Option (Int32 × Mm) :=
kf_j (α := Int32) (fun x2 σ3 =>
kf_z x2 (some (x2, σ3))) fun k1 =>
kf_j (α := Unit) (fun x5 σ6 =>
k1 1 σ6) fun k4 =>
kf_j (α := Unit) (fun x8 σ9 =>
kf_j (α := Unit) (fun x11 σ12 =>
k1 0 σ12) fun k10 =>
if a0 < 97 then (
k10 () σ9) else (
if 122 < a0 then (
k10 () σ9) else (
k4 () σ9))) fun k7 =>
if a0 < 65 then (
k7 () σ) else (
if a0 ≤ 90 then (
k4 () σ) else (
k7 () σ))
theorem d_Pieces_isLetter_0 : decode prog_8_method_4_code 0 = .ok (.iload_n 0, 1) := by decide +kernel
theorem d_Pieces_isLetter_1 : decode prog_8_method_4_code 1 = .ok (.bipush 65, 2) := by decide +kernel
theorem d_Pieces_isLetter_3 : decode prog_8_method_4_code 3 = .ok (.if_icmp .lt 9, 3) := by decide +kernel
theorem d_Pieces_isLetter_6 : decode prog_8_method_4_code 6 = .ok (.iload_n 0, 1) := by decide +kernel
theorem d_Pieces_isLetter_7 : decode prog_8_method_4_code 7 = .ok (.bipush 90, 2) := by decide +kernel
theorem d_Pieces_isLetter_9 : decode prog_8_method_4_code 9 = .ok (.if_icmp .le 15, 3) := by decide +kernel
theorem d_Pieces_isLetter_12 : decode prog_8_method_4_code 12 = .ok (.iload_n 0, 1) := by decide +kernel
theorem d_Pieces_isLetter_13 : decode prog_8_method_4_code 13 = .ok (.bipush 97, 2) := by decide +kernel
theorem d_Pieces_isLetter_15 : decode prog_8_method_4_code 15 = .ok (.if_icmp .lt 13, 3) := by decide +kernel
theorem d_Pieces_isLetter_18 : decode prog_8_method_4_code 18 = .ok (.iload_n 0, 1) := by decide +kernel
theorem d_Pieces_isLetter_19 : decode prog_8_method_4_code 19 = .ok (.bipush 122, 2) := by decide +kernel
theorem d_Pieces_isLetter_21 : decode prog_8_method_4_code 21 = .ok (.if_icmp .gt 7, 3) := by decide +kernel
theorem d_Pieces_isLetter_24 : decode prog_8_method_4_code 24 = .ok (.iconst 1, 1) := by decide +kernel
theorem d_Pieces_isLetter_25 : decode prog_8_method_4_code 25 = .ok (.goto 4, 3) := by decide +kernel
theorem d_Pieces_isLetter_28 : decode prog_8_method_4_code 28 = .ok (.iconst 0, 1) := by decide +kernel
theorem d_Pieces_isLetter_29 : decode prog_8_method_4_code 29 = .ok (.ireturn, 1) := by decide +kernel
set_option maxRecDepth 100000 in
set_option maxHeartbeats 4000000 in
theorem c_Pieces_isLetter {l0 : Launch} (hl : l0.stackTraces = false) (n : Nat) (ids : List Nat)  (a0 : Int32) (σ : Mm) : kw_C l0 y_Pieces_isLetter (Cond.code y_Pieces_isLetter prog_8_method_4_code 1 (some .boolean) :: kw_Ts) rm_Pieces_isLetter kw_oi ids [] [.int a0] σ (F_Pieces_isLetter n a0 σ) := by
  refine kw_start (L0 := [some (.int a0)]) hl (by decide +kernel) (Nat.le_of_ble_eq_true rfl) rfl (fun Γ ad C Ce => ?_)
  unfold F_Pieces_isLetter
  refine kw_iload_n C d_Pieces_isLetter_0 rfl ?_
  refine kw_bipush (v := 65) C d_Pieces_isLetter_1 (by decide) ?_
  refine kw_j (α := Int32) (pcj := 29) (Lj := fun x2 => [none]) (stj := fun x2 => [.int x2]) (fun x2 σ3 => ?_) (fun k1 hk1 => ?_)
  · exact kw_zret C Ce rfl (by simp) (fun _ _ => rfl) (Nat.le_of_ble_eq_true rfl) (Nat.le_of_ble_eq_true rfl) rfl d_Pieces_isLetter_29
  · refine kw_j (α := Unit) (pcj := 24) (Lj := fun x5 => [none]) (stj := fun x5 => []) (fun x5 σ6 => ?_) (fun k4 hk4 => ?_)
    · refine kw_iconst (v := 1) C d_Pieces_isLetter_24 (by decide) ?_
      refine kw_goto (tgt := 29) C d_Pieces_isLetter_25 (by decide) ?_
      exact kw_wk (hk1 1 σ6) ⟨Or.inl rfl, trivial⟩
    · refine kw_j (α := Unit) (pcj := 12) (Lj := fun x8 => [some (.int a0)]) (stj := fun x8 => []) (fun x8 σ9 => ?_) (fun k7 hk7 => ?_)
      · refine kw_iload_n C d_Pieces_isLetter_12 rfl ?_
        refine kw_bipush (v := 97) C d_Pieces_isLetter_13 (by decide) ?_
        refine kw_j (α := Unit) (pcj := 28) (Lj := fun x11 => [none]) (stj := fun x11 => []) (fun x11 σ12 => ?_) (fun k10 hk10 => ?_)
        · refine kw_iconst (v := 0) C d_Pieces_isLetter_28 (by decide) ?_
          exact kw_wk (hk1 0 σ12) ⟨Or.inl rfl, trivial⟩
        · refine kw_icmp_lt (tgt := 28) C d_Pieces_isLetter_15 (by decide) ?_ ?_
          · exact kw_wk (hk10 () σ9) ⟨Or.inl rfl, trivial⟩
          · refine kw_iload_n C d_Pieces_isLetter_18 rfl ?_
            refine kw_bipush (v := 122) C d_Pieces_isLetter_19 (by decide) ?_
            refine kw_icmp_gt (tgt := 28) C d_Pieces_isLetter_21 (by decide) ?_ ?_
            · exact kw_wk (hk10 () σ9) ⟨Or.inl rfl, trivial⟩
            · exact kw_wk (hk4 () σ9) ⟨Or.inl rfl, trivial⟩
      · refine kw_icmp_lt (tgt := 12) C d_Pieces_isLetter_3 (by decide) ?_ ?_
        · exact kw_wk (hk7 () σ) ⟨Or.inr rfl, trivial⟩
        · refine kw_iload_n C d_Pieces_isLetter_6 rfl ?_
          refine kw_bipush (v := 90) C d_Pieces_isLetter_7 (by decide) ?_
          refine kw_icmp_le (tgt := 24) C d_Pieces_isLetter_9 (by decide) ?_ ?_
          · exact kw_wk (hk4 () σ) ⟨Or.inl rfl, trivial⟩
          · exact kw_wk (hk7 () σ) ⟨Or.inr rfl, trivial⟩
/-! Tape_check -/
def rm_Tape_check : Room := { frames := 0, cells := 0, slots := 0, locals := 0 }
def F_Tape_check (n : Nat) (t : Nat) (a0 : Int32) (a1 : Int32) (σ : Mm) : Option (Int32 × Mm) :=
kf_let (-1 : Int32) fun x1 =>
kf_l (α := Int32 × Int32) n (fun k2 x3 σ4 =>
if a1 ≤ x3.2 then (
some (x3.1 ^^^ (-1), σ4)) else (
Option.bind (gR σ4 (64 * t + 2)) fun o5 =>
Option.bind (gR σ4 (64 * t + 0)) fun o6 =>
kf_in x3.2 (mm_kd o6).2.2 <|
kf_let ((x3.1 ^^^ (gB σ4 o6 x3.2.toNatClampNeg)) &&& 255 : Int32) fun x7 =>
kf_in x7 (mm_kd o5).2.2 <|
kf_let (((x3.1.toUInt32 >>> ((8 : Int32).toUInt32 &&& Int32.toUInt32 31)).toInt32) ^^^ (gB σ4 o5 x7.toNatClampNeg) : Int32) fun x8 =>
kf_let (x3.2 + Int32.ofInt 1) fun x9 =>
k2 (x8, x9) σ4)) (x1, a0) σ
theorem d_Tape_check_0 : decode prog_10_method_9_code 0 = .ok (.iconst (-1), 1) := by decide +kernel
theorem d_Tape_check_1 : decode prog_10_method_9_code 1 = .ok (.istore_n 3, 1) := by decide +kernel
theorem d_Tape_check_2 : decode prog_10_method_9_code 2 = .ok (.iload_n 1, 1) := by decide +kernel
theorem d_Tape_check_3 : decode prog_10_method_9_code 3 = .ok (.istore 4, 2) := by decide +kernel
theorem d_Tape_check_5 : decode prog_10_method_9_code 5 = .ok (.iload 4, 2) := by decide +kernel
theorem d_Tape_check_7 : decode prog_10_method_9_code 7 = .ok (.iload_n 2, 1) := by decide +kernel
theorem d_Tape_check_8 : decode prog_10_method_9_code 8 = .ok (.if_icmp .ge 33, 3) := by decide +kernel
theorem d_Tape_check_11 : decode prog_10_method_9_code 11 = .ok (.iload_n 3, 1) := by decide +kernel
theorem d_Tape_check_12 : decode prog_10_method_9_code 12 = .ok (.bipush 8, 2) := by decide +kernel
theorem d_Tape_check_14 : decode prog_10_method_9_code 14 = .ok (.iushr, 1) := by decide +kernel
theorem d_Tape_check_15 : decode prog_10_method_9_code 15 = .ok (.aload_n 0, 1) := by decide +kernel
theorem d_Tape_check_16 : decode prog_10_method_9_code 16 = .ok (.getfield 18, 3) := by decide +kernel
theorem d_Tape_check_19 : decode prog_10_method_9_code 19 = .ok (.iload_n 3, 1) := by decide +kernel
theorem d_Tape_check_20 : decode prog_10_method_9_code 20 = .ok (.aload_n 0, 1) := by decide +kernel
theorem d_Tape_check_21 : decode prog_10_method_9_code 21 = .ok (.getfield 10, 3) := by decide +kernel
theorem d_Tape_check_24 : decode prog_10_method_9_code 24 = .ok (.iload 4, 2) := by decide +kernel
theorem d_Tape_check_26 : decode prog_10_method_9_code 26 = .ok (.iaload, 1) := by decide +kernel
theorem d_Tape_check_27 : decode prog_10_method_9_code 27 = .ok (.ixor, 1) := by decide +kernel
theorem d_Tape_check_28 : decode prog_10_method_9_code 28 = .ok (.sipush 255, 3) := by decide +kernel
theorem d_Tape_check_31 : decode prog_10_method_9_code 31 = .ok (.iand, 1) := by decide +kernel
theorem d_Tape_check_32 : decode prog_10_method_9_code 32 = .ok (.iaload, 1) := by decide +kernel
theorem d_Tape_check_33 : decode prog_10_method_9_code 33 = .ok (.ixor, 1) := by decide +kernel
theorem d_Tape_check_34 : decode prog_10_method_9_code 34 = .ok (.istore_n 3, 1) := by decide +kernel
theorem d_Tape_check_35 : decode prog_10_method_9_code 35 = .ok (.iinc 4 1, 3) := by decide +kernel
theorem d_Tape_check_38 : decode prog_10_method_9_code 38 = .ok (.goto (-33), 3) := by decide +kernel
theorem d_Tape_check_41 : decode prog_10_method_9_code 41 = .ok (.iload_n 3, 1) := by decide +kernel
theorem d_Tape_check_42 : decode prog_10_method_9_code 42 = .ok (.iconst (-1), 1) := by decide +kernel
theorem d_Tape_check_43 : decode prog_10_method_9_code 43 = .ok (.ixor, 1) := by decide +kernel
theorem d_Tape_check_44 : decode prog_10_method_9_code 44 = .ok (.ireturn, 1) := by decide +kernel
set_option maxRecDepth 100000 in
set_option maxHeartbeats 4000000 in
theorem c_Tape_check {l0 : Launch} (hl : l0.stackTraces = false) (n : Nat) (ids : List Nat) {t : Nat} (ht : mm_ok ids t 1 1) (a0 : Int32) (a1 : Int32) (σ : Mm) : kw_C l0 y_Tape_check (Cond.code y_Tape_check prog_10_method_9_code 5 (some .int) :: kw_Ts) rm_Tape_check kw_oi ids [] [.ref t, .int a0, .int a1] σ (F_Tape_check n t a0 a1 σ) := by
  refine kw_start (L0 := [some (.ref t), some (.int a0), some (.int a1), none, none]) hl (by decide +kernel) (Nat.le_of_ble_eq_true rfl) rfl (fun Γ ad C Ce => ?_)
  unfold F_Tape_check
  refine kw_iconst (v := -1) C d_Tape_check_0 (by decide) ?_
  refine kw_leti (fun x1 => ?_)
  refine kw_istore_n (L' := [some (.ref t), some (.int a0), some (.int a1), some (.int x1), none]) C d_Tape_check_1 (by decide) rfl ?_
  refine kw_iload_n C d_Tape_check_2 rfl ?_
  refine kw_istore (L' := [some (.ref t), some (.int a0), some (.int a1), some (.int x1), some (.int a0)]) C d_Tape_check_3 (by decide) rfl ?_
  refine kw_wk (kw_l (α := Int32 × Int32) (pc := 5) (Lj := fun x3 => [some (.ref t), none, some (.int a1), some (.int x3.1), some (.int x3.2)]) (stj := fun x3 => []) (fun k2 hk2 x3 σ4 => ?_) n (x1, a0) σ) ⟨Or.inr rfl, Or.inl rfl, Or.inr rfl, Or.inr rfl, Or.inr rfl, trivial⟩
  refine kw_iload C d_Tape_check_5 rfl ?_
  refine kw_iload_n C d_Tape_check_7 rfl ?_
  refine kw_icmp_ge (tgt := 41) C d_Tape_check_8 (by decide) ?_ ?_
  · refine kw_iload_n C d_Tape_check_41 rfl ?_
    refine kw_iconst (v := -1) C d_Tape_check_42 (by decide) ?_
    refine kw_ixor C d_Tape_check_43 ?_
    exact kw_iret C Ce rfl (by simp) (fun _ _ => rfl) (Nat.le_of_ble_eq_true rfl) (Nat.le_of_ble_eq_true rfl) rfl d_Tape_check_44
  · refine kw_iload_n C d_Tape_check_11 rfl ?_
    refine kw_bipush (v := 8) C d_Tape_check_12 (by decide) ?_
    refine kw_iushr C d_Tape_check_14 ?_
    refine kw_aload_n C d_Tape_check_15 rfl ?_
    refine kw_getR C fi_Tape_18 rfl rfl ht d_Tape_check_16 (fun o5 ho5 => ?_)
    refine kw_iload_n C d_Tape_check_19 rfl ?_
    refine kw_aload_n C d_Tape_check_20 rfl ?_
    refine kw_getR C fi_Tape_10 rfl rfl ht d_Tape_check_21 (fun o6 ho6 => ?_)
    refine kw_iload C d_Tape_check_24 rfl ?_
    refine kw_iald C (Or.inl ⟨ho6.1, ho6.2.1⟩) d_Tape_check_26 ?_
    refine kw_ixor C d_Tape_check_27 ?_
    refine kw_sipush (v := 255) C d_Tape_check_28 (by decide) ?_
    refine kw_iand C d_Tape_check_31 ?_
    refine kw_leti (fun x7 => ?_)
    refine kw_iald C (Or.inl ⟨ho5.1, ho5.2.1⟩) d_Tape_check_32 ?_
    refine kw_ixor C d_Tape_check_33 ?_
    refine kw_leti (fun x8 => ?_)
    refine kw_istore_n (L' := [some (.ref t), none, some (.int a1), some (.int x8), some (.int x3.2)]) C d_Tape_check_34 (by decide) rfl ?_
    refine kw_iincL (L2 := fun x9 => [some (.ref t), none, some (.int a1), some (.int x8), some (.int x9)]) C d_Tape_check_35 (by decide) rfl (fun _ => rfl) (fun x9 => ?_)
    refine kw_goto (tgt := 5) C d_Tape_check_38 (by decide) ?_
    exact kw_wk (hk2 (x8, x9) σ4) ⟨Or.inr rfl, Or.inl rfl, Or.inr rfl, Or.inr rfl, Or.inr rfl, trivial⟩
/-! Pieces_isWhole -/
def rm_Pieces_isWhole : Room := { frames := 2, cells := 0, slots := 0, locals := 42 }
def F_Pieces_isWhole (n : Nat) (t : Nat) (a0 : Int32) (σ : Mm) : Option (Int32 × Mm) :=
Option.bind (gR σ (64 * t + 0)) fun o1 =>
if (a0 + 8) ≤ (gS σ (64 * o1 + 1)) then (
Option.bind (gR σ (64 * t + 0)) fun o2 =>
kf_c2 (F_Tape_number n o2 a0 σ) fun x3 σ4 =>
if 0 ≤ x3 then (
kf_let (a0 + 4 : Int32) fun x5 =>
kf_l (α := Int32) n (fun k6 x7 σ8 =>
if (a0 + 8) ≤ x7 then (
Option.bind (gR σ8 (64 * t + 0)) fun o9 =>
if x3 ≤ (((gS σ8 (64 * o9 + 1)) - a0) - 12) then (
kf_let ((a0 + 8) + x3 : Int32) fun x10 =>
Option.bind (gR σ8 (64 * t + 0)) fun o11 =>
kf_c2 (F_Tape_number n o11 x10 σ8) fun x12 σ13 =>
Option.bind (gR σ13 (64 * t + 0)) fun o14 =>
kf_c2 (F_Tape_check n o14 (a0 + 4) x10 σ13) fun x15 σ16 =>
kf_j (α := Int32) (fun x18 σ19 =>
kf_z x18 (some (x18, σ19))) fun k17 =>
kf_j (α := Unit) (fun x21 σ22 =>
k17 1 σ22) fun k20 =>
if x12 = x15 then (
k20 () σ16) else (
Option.bind (gR σ16 (64 * t + 1)) fun o23 =>
kf_c2 (F_Fault_refuse n o23 5 x10 σ16) fun x24 σ25 =>
if x24 = 0 then (
k17 0 σ25) else (
k20 () σ25))) else (
Option.bind (gR σ8 (64 * t + 1)) fun o26 =>
Option.bind (gR σ8 (64 * t + 0)) fun o27 =>
kf_c2 (F_Fault_refuse n o26 2 (gS σ8 (64 * o27 + 1)) σ8) fun x28 σ29 =>
kf_z x28 (some (x28, σ29)))) else (
Option.bind (gR σ8 (64 * t + 0)) fun o30 =>
Option.bind (gR σ8 (64 * o30 + 0)) fun o31 =>
kf_in x7 (mm_kd o31).2.2 <|
kf_c2 (F_Pieces_isLetter n (gB σ8 o31 x7.toNatClampNeg) σ8) fun x32 σ33 =>
if x32 = 0 then (
Option.bind (gR σ33 (64 * t + 1)) fun o35 =>
kf_c2 (F_Fault_refuse n o35 4 x7 σ33) fun x36 σ37 =>
kf_z x36 (some (x36, σ37))) else (
kf_let (x7 + Int32.ofInt 1) fun x34 =>
k6 x34 σ33))) x5 σ4) else (
Option.bind (gR σ4 (64 * t + 1)) fun o38 =>
kf_c2 (F_Fault_refuse n o38 3 a0 σ4) fun x39 σ40 =>
kf_z x39 (some (x39, σ40)))) else (
Option.bind (gR σ (64 * t + 1)) fun o41 =>
Option.bind (gR σ (64 * t + 0)) fun o42 =>
kf_c2 (F_Fault_refuse n o41 2 (gS σ (64 * o42 + 1)) σ) fun x43 σ44 =>
kf_z x43 (some (x43, σ44)))
theorem d_Pieces_isWhole_0 : decode prog_8_method_3_code 0 = .ok (.iload_n 1, 1) := by decide +kernel
theorem d_Pieces_isWhole_1 : decode prog_8_method_3_code 1 = .ok (.bipush 8, 2) := by decide +kernel
theorem d_Pieces_isWhole_3 : decode prog_8_method_3_code 3 = .ok (.iadd, 1) := by decide +kernel
theorem d_Pieces_isWhole_4 : decode prog_8_method_3_code 4 = .ok (.aload_n 0, 1) := by decide +kernel
theorem d_Pieces_isWhole_5 : decode prog_8_method_3_code 5 = .ok (.getfield 9, 3) := by decide +kernel
theorem d_Pieces_isWhole_8 : decode prog_8_method_3_code 8 = .ok (.getfield 52, 3) := by decide +kernel
theorem d_Pieces_isWhole_11 : decode prog_8_method_3_code 11 = .ok (.if_icmp .le 19, 3) := by decide +kernel
theorem d_Pieces_isWhole_14 : decode prog_8_method_3_code 14 = .ok (.aload_n 0, 1) := by decide +kernel
theorem d_Pieces_isWhole_15 : decode prog_8_method_3_code 15 = .ok (.getfield 15, 3) := by decide +kernel
theorem d_Pieces_isWhole_18 : decode prog_8_method_3_code 18 = .ok (.iconst 2, 1) := by decide +kernel
theorem d_Pieces_isWhole_19 : decode prog_8_method_3_code 19 = .ok (.aload_n 0, 1) := by decide +kernel
theorem d_Pieces_isWhole_20 : decode prog_8_method_3_code 20 = .ok (.getfield 9, 3) := by decide +kernel
theorem d_Pieces_isWhole_23 : decode prog_8_method_3_code 23 = .ok (.getfield 52, 3) := by decide +kernel
theorem d_Pieces_isWhole_26 : decode prog_8_method_3_code 26 = .ok (.invokevirtual 58, 3) := by decide +kernel
theorem d_Pieces_isWhole_29 : decode prog_8_method_3_code 29 = .ok (.ireturn, 1) := by decide +kernel
theorem d_Pieces_isWhole_30 : decode prog_8_method_3_code 30 = .ok (.aload_n 0, 1) := by decide +kernel
theorem d_Pieces_isWhole_31 : decode prog_8_method_3_code 31 = .ok (.getfield 9, 3) := by decide +kernel
theorem d_Pieces_isWhole_34 : decode prog_8_method_3_code 34 = .ok (.iload_n 1, 1) := by decide +kernel
theorem d_Pieces_isWhole_35 : decode prog_8_method_3_code 35 = .ok (.invokevirtual 73, 3) := by decide +kernel
theorem d_Pieces_isWhole_38 : decode prog_8_method_3_code 38 = .ok (.istore_n 2, 1) := by decide +kernel
theorem d_Pieces_isWhole_39 : decode prog_8_method_3_code 39 = .ok (.iload_n 2, 1) := by decide +kernel
theorem d_Pieces_isWhole_40 : decode prog_8_method_3_code 40 = .ok (.ifCond .ge 13, 3) := by decide +kernel
theorem d_Pieces_isWhole_43 : decode prog_8_method_3_code 43 = .ok (.aload_n 0, 1) := by decide +kernel
theorem d_Pieces_isWhole_44 : decode prog_8_method_3_code 44 = .ok (.getfield 15, 3) := by decide +kernel
theorem d_Pieces_isWhole_47 : decode prog_8_method_3_code 47 = .ok (.iconst 3, 1) := by decide +kernel
theorem d_Pieces_isWhole_48 : decode prog_8_method_3_code 48 = .ok (.iload_n 1, 1) := by decide +kernel
theorem d_Pieces_isWhole_49 : decode prog_8_method_3_code 49 = .ok (.invokevirtual 58, 3) := by decide +kernel
theorem d_Pieces_isWhole_52 : decode prog_8_method_3_code 52 = .ok (.ireturn, 1) := by decide +kernel
theorem d_Pieces_isWhole_53 : decode prog_8_method_3_code 53 = .ok (.iload_n 1, 1) := by decide +kernel
theorem d_Pieces_isWhole_54 : decode prog_8_method_3_code 54 = .ok (.iconst 4, 1) := by decide +kernel
theorem d_Pieces_isWhole_55 : decode prog_8_method_3_code 55 = .ok (.iadd, 1) := by decide +kernel
theorem d_Pieces_isWhole_56 : decode prog_8_method_3_code 56 = .ok (.istore_n 3, 1) := by decide +kernel
theorem d_Pieces_isWhole_57 : decode prog_8_method_3_code 57 = .ok (.iload_n 3, 1) := by decide +kernel
theorem d_Pieces_isWhole_58 : decode prog_8_method_3_code 58 = .ok (.iload_n 1, 1) := by decide +kernel
theorem d_Pieces_isWhole_59 : decode prog_8_method_3_code 59 = .ok (.bipush 8, 2) := by decide +kernel
theorem d_Pieces_isWhole_61 : decode prog_8_method_3_code 61 = .ok (.iadd, 1) := by decide +kernel
theorem d_Pieces_isWhole_62 : decode prog_8_method_3_code 62 = .ok (.if_icmp .ge 34, 3) := by decide +kernel
theorem d_Pieces_isWhole_65 : decode prog_8_method_3_code 65 = .ok (.aload_n 0, 1) := by decide +kernel
theorem d_Pieces_isWhole_66 : decode prog_8_method_3_code 66 = .ok (.getfield 9, 3) := by decide +kernel
theorem d_Pieces_isWhole_69 : decode prog_8_method_3_code 69 = .ok (.getfield 55, 3) := by decide +kernel
theorem d_Pieces_isWhole_72 : decode prog_8_method_3_code 72 = .ok (.iload_n 3, 1) := by decide +kernel
theorem d_Pieces_isWhole_73 : decode prog_8_method_3_code 73 = .ok (.iaload, 1) := by decide +kernel
theorem d_Pieces_isWhole_74 : decode prog_8_method_3_code 74 = .ok (.invokestatic 77, 3) := by decide +kernel
theorem d_Pieces_isWhole_77 : decode prog_8_method_3_code 77 = .ok (.ifCond .ne 13, 3) := by decide +kernel
theorem d_Pieces_isWhole_80 : decode prog_8_method_3_code 80 = .ok (.aload_n 0, 1) := by decide +kernel
theorem d_Pieces_isWhole_81 : decode prog_8_method_3_code 81 = .ok (.getfield 15, 3) := by decide +kernel
theorem d_Pieces_isWhole_84 : decode prog_8_method_3_code 84 = .ok (.iconst 4, 1) := by decide +kernel
theorem d_Pieces_isWhole_85 : decode prog_8_method_3_code 85 = .ok (.iload_n 3, 1) := by decide +kernel
theorem d_Pieces_isWhole_86 : decode prog_8_method_3_code 86 = .ok (.invokevirtual 58, 3) := by decide +kernel
theorem d_Pieces_isWhole_89 : decode prog_8_method_3_code 89 = .ok (.ireturn, 1) := by decide +kernel
theorem d_Pieces_isWhole_90 : decode prog_8_method_3_code 90 = .ok (.iinc 3 1, 3) := by decide +kernel
theorem d_Pieces_isWhole_93 : decode prog_8_method_3_code 93 = .ok (.goto (-36), 3) := by decide +kernel
theorem d_Pieces_isWhole_96 : decode prog_8_method_3_code 96 = .ok (.iload_n 2, 1) := by decide +kernel
theorem d_Pieces_isWhole_97 : decode prog_8_method_3_code 97 = .ok (.aload_n 0, 1) := by decide +kernel
theorem d_Pieces_isWhole_98 : decode prog_8_method_3_code 98 = .ok (.getfield 9, 3) := by decide +kernel
theorem d_Pieces_isWhole_101 : decode prog_8_method_3_code 101 = .ok (.getfield 52, 3) := by decide +kernel
theorem d_Pieces_isWhole_104 : decode prog_8_method_3_code 104 = .ok (.iload_n 1, 1) := by decide +kernel
theorem d_Pieces_isWhole_105 : decode prog_8_method_3_code 105 = .ok (.isub, 1) := by decide +kernel
theorem d_Pieces_isWhole_106 : decode prog_8_method_3_code 106 = .ok (.bipush 12, 2) := by decide +kernel
theorem d_Pieces_isWhole_108 : decode prog_8_method_3_code 108 = .ok (.isub, 1) := by decide +kernel
theorem d_Pieces_isWhole_109 : decode prog_8_method_3_code 109 = .ok (.if_icmp .le 19, 3) := by decide +kernel
theorem d_Pieces_isWhole_112 : decode prog_8_method_3_code 112 = .ok (.aload_n 0, 1) := by decide +kernel
theorem d_Pieces_isWhole_113 : decode prog_8_method_3_code 113 = .ok (.getfield 15, 3) := by decide +kernel
theorem d_Pieces_isWhole_116 : decode prog_8_method_3_code 116 = .ok (.iconst 2, 1) := by decide +kernel
theorem d_Pieces_isWhole_117 : decode prog_8_method_3_code 117 = .ok (.aload_n 0, 1) := by decide +kernel
theorem d_Pieces_isWhole_118 : decode prog_8_method_3_code 118 = .ok (.getfield 9, 3) := by decide +kernel
theorem d_Pieces_isWhole_121 : decode prog_8_method_3_code 121 = .ok (.getfield 52, 3) := by decide +kernel
theorem d_Pieces_isWhole_124 : decode prog_8_method_3_code 124 = .ok (.invokevirtual 58, 3) := by decide +kernel
theorem d_Pieces_isWhole_127 : decode prog_8_method_3_code 127 = .ok (.ireturn, 1) := by decide +kernel
theorem d_Pieces_isWhole_128 : decode prog_8_method_3_code 128 = .ok (.iload_n 1, 1) := by decide +kernel
theorem d_Pieces_isWhole_129 : decode prog_8_method_3_code 129 = .ok (.bipush 8, 2) := by decide +kernel
theorem d_Pieces_isWhole_131 : decode prog_8_method_3_code 131 = .ok (.iadd, 1) := by decide +kernel
theorem d_Pieces_isWhole_132 : decode prog_8_method_3_code 132 = .ok (.iload_n 2, 1) := by decide +kernel
theorem d_Pieces_isWhole_133 : decode prog_8_method_3_code 133 = .ok (.iadd, 1) := by decide +kernel
theorem d_Pieces_isWhole_134 : decode prog_8_method_3_code 134 = .ok (.istore_n 3, 1) := by decide +kernel
theorem d_Pieces_isWhole_135 : decode prog_8_method_3_code 135 = .ok (.aload_n 0, 1) := by decide +kernel
theorem d_Pieces_isWhole_136 : decode prog_8_method_3_code 136 = .ok (.getfield 9, 3) := by decide +kernel
theorem d_Pieces_isWhole_139 : decode prog_8_method_3_code 139 = .ok (.iload_n 3, 1) := by decide +kernel
theorem d_Pieces_isWhole_140 : decode prog_8_method_3_code 140 = .ok (.invokevirtual 73, 3) := by decide +kernel
theorem d_Pieces_isWhole_143 : decode prog_8_method_3_code 143 = .ok (.aload_n 0, 1) := by decide +kernel
theorem d_Pieces_isWhole_144 : decode prog_8_method_3_code 144 = .ok (.getfield 9, 3) := by decide +kernel
theorem d_Pieces_isWhole_147 : decode prog_8_method_3_code 147 = .ok (.iload_n 1, 1) := by decide +kernel
theorem d_Pieces_isWhole_148 : decode prog_8_method_3_code 148 = .ok (.iconst 4, 1) := by decide +kernel
theorem d_Pieces_isWhole_149 : decode prog_8_method_3_code 149 = .ok (.iadd, 1) := by decide +kernel
theorem d_Pieces_isWhole_150 : decode prog_8_method_3_code 150 = .ok (.iload_n 3, 1) := by decide +kernel
theorem d_Pieces_isWhole_151 : decode prog_8_method_3_code 151 = .ok (.invokevirtual 80, 3) := by decide +kernel
theorem d_Pieces_isWhole_154 : decode prog_8_method_3_code 154 = .ok (.if_icmp .eq 15, 3) := by decide +kernel
theorem d_Pieces_isWhole_157 : decode prog_8_method_3_code 157 = .ok (.aload_n 0, 1) := by decide +kernel
theorem d_Pieces_isWhole_158 : decode prog_8_method_3_code 158 = .ok (.getfield 15, 3) := by decide +kernel
theorem d_Pieces_isWhole_161 : decode prog_8_method_3_code 161 = .ok (.iconst 5, 1) := by decide +kernel
theorem d_Pieces_isWhole_162 : decode prog_8_method_3_code 162 = .ok (.iload_n 3, 1) := by decide +kernel
theorem d_Pieces_isWhole_163 : decode prog_8_method_3_code 163 = .ok (.invokevirtual 58, 3) := by decide +kernel
theorem d_Pieces_isWhole_166 : decode prog_8_method_3_code 166 = .ok (.ifCond .eq 7, 3) := by decide +kernel
theorem d_Pieces_isWhole_169 : decode prog_8_method_3_code 169 = .ok (.iconst 1, 1) := by decide +kernel
theorem d_Pieces_isWhole_170 : decode prog_8_method_3_code 170 = .ok (.goto 4, 3) := by decide +kernel
theorem d_Pieces_isWhole_173 : decode prog_8_method_3_code 173 = .ok (.iconst 0, 1) := by decide +kernel
theorem d_Pieces_isWhole_174 : decode prog_8_method_3_code 174 = .ok (.ireturn, 1) := by decide +kernel
set_option maxRecDepth 100000 in
set_option maxHeartbeats 4000000 in
theorem c_Pieces_isWhole {l0 : Launch} (hl : l0.stackTraces = false) (n : Nat) (ids : List Nat) {t : Nat} (ht : mm_ok ids t 1 5) (a0 : Int32) (σ : Mm) : kw_C l0 y_Pieces_isWhole (Cond.code y_Pieces_isWhole prog_8_method_3_code 4 (some .boolean) :: kw_Ts) rm_Pieces_isWhole kw_oi ids [] [.ref t, .int a0] σ (F_Pieces_isWhole n t a0 σ) := by
  refine kw_start (L0 := [some (.ref t), some (.int a0), none, none]) hl (by decide +kernel) (Nat.le_of_ble_eq_true rfl) rfl (fun Γ ad C Ce => ?_)
  unfold F_Pieces_isWhole
  refine kw_iload_n C d_Pieces_isWhole_0 rfl ?_
  refine kw_bipush (v := 8) C d_Pieces_isWhole_1 (by decide) ?_
  refine kw_iadd C d_Pieces_isWhole_3 ?_
  refine kw_aload_n C d_Pieces_isWhole_4 rfl ?_
  refine kw_getR C fi_Pieces_9 rfl rfl ht d_Pieces_isWhole_5 (fun o1 ho1 => ?_)
  refine kw_getI C fi_Pieces_52 (Or.inl rfl) ho1 d_Pieces_isWhole_8 ?_
  refine kw_icmp_le (tgt := 30) C d_Pieces_isWhole_11 (by decide) ?_ ?_
  · refine kw_aload_n C d_Pieces_isWhole_30 rfl ?_
    refine kw_getR C fi_Pieces_9 rfl rfl ht d_Pieces_isWhole_31 (fun o2 ho2 => ?_)
    refine kw_iload_n C d_Pieces_isWhole_34 rfl ?_
    refine kw_callVi (cl' := 0) (sl' := 0) (As := [.int a0]) C (c_Tape_number hl n ids ho2 a0 σ) mi_Pieces_73 v_Tape_number ⟨_, _, rfl⟩ ho2 ⟨Nat.le_of_ble_eq_true rfl, Nat.le_of_ble_eq_true rfl⟩ (Nat.le_of_ble_eq_true rfl) ⟨Nat.le_of_ble_eq_true rfl, Nat.le_of_ble_eq_true rfl⟩ ⟨rfl, rfl⟩ rfl d_Pieces_isWhole_35 (fun x3 σ4 => ?_)
    refine kw_istore_n (L' := [some (.ref t), some (.int a0), some (.int x3), none]) C d_Pieces_isWhole_38 (by decide) rfl ?_
    refine kw_iload_n C d_Pieces_isWhole_39 rfl ?_
    refine kw_if_ge (tgt := 53) C d_Pieces_isWhole_40 (by decide) ?_ ?_
    · refine kw_iload_n C d_Pieces_isWhole_53 rfl ?_
      refine kw_iconst (v := 4) C d_Pieces_isWhole_54 (by decide) ?_
      refine kw_iadd C d_Pieces_isWhole_55 ?_
      refine kw_leti (fun x5 => ?_)
      refine kw_istore_n (L' := [some (.ref t), some (.int a0), some (.int x3), some (.int x5)]) C d_Pieces_isWhole_56 (by decide) rfl ?_
      refine kw_wk (kw_l (α := Int32) (pc := 57) (Lj := fun x7 => [some (.ref t), some (.int a0), some (.int x3), some (.int x7)]) (stj := fun x7 => []) (fun k6 hk6 x7 σ8 => ?_) n x5 σ4) ⟨Or.inr rfl, Or.inr rfl, Or.inr rfl, Or.inr rfl, trivial⟩
      refine kw_iload_n C d_Pieces_isWhole_57 rfl ?_
      refine kw_iload_n C d_Pieces_isWhole_58 rfl ?_
      refine kw_bipush (v := 8) C d_Pieces_isWhole_59 (by decide) ?_
      refine kw_iadd C d_Pieces_isWhole_61 ?_
      refine kw_icmp_ge (tgt := 96) C d_Pieces_isWhole_62 (by decide) ?_ ?_
      · refine kw_iload_n C d_Pieces_isWhole_96 rfl ?_
        refine kw_aload_n C d_Pieces_isWhole_97 rfl ?_
        refine kw_getR C fi_Pieces_9 rfl rfl ht d_Pieces_isWhole_98 (fun o9 ho9 => ?_)
        refine kw_getI C fi_Pieces_52 (Or.inl rfl) ho9 d_Pieces_isWhole_101 ?_
        refine kw_iload_n C d_Pieces_isWhole_104 rfl ?_
        refine kw_isub C d_Pieces_isWhole_105 ?_
        refine kw_bipush (v := 12) C d_Pieces_isWhole_106 (by decide) ?_
        refine kw_isub C d_Pieces_isWhole_108 ?_
        refine kw_icmp_le (tgt := 128) C d_Pieces_isWhole_109 (by decide) ?_ ?_
        · refine kw_iload_n C d_Pieces_isWhole_128 rfl ?_
          refine kw_bipush (v := 8) C d_Pieces_isWhole_129 (by decide) ?_
          refine kw_iadd C d_Pieces_isWhole_131 ?_
          refine kw_iload_n C d_Pieces_isWhole_132 rfl ?_
          refine kw_iadd C d_Pieces_isWhole_133 ?_
          refine kw_leti (fun x10 => ?_)
          refine kw_istore_n (L' := [some (.ref t), some (.int a0), some (.int x3), some (.int x10)]) C d_Pieces_isWhole_134 (by decide) rfl ?_
          refine kw_aload_n C d_Pieces_isWhole_135 rfl ?_
          refine kw_getR C fi_Pieces_9 rfl rfl ht d_Pieces_isWhole_136 (fun o11 ho11 => ?_)
          refine kw_iload_n C d_Pieces_isWhole_139 rfl ?_
          refine kw_callVi (cl' := 0) (sl' := 0) (As := [.int x10]) C (c_Tape_number hl n ids ho11 x10 σ8) mi_Pieces_73 v_Tape_number ⟨_, _, rfl⟩ ho11 ⟨Nat.le_of_ble_eq_true rfl, Nat.le_of_ble_eq_true rfl⟩ (Nat.le_of_ble_eq_true rfl) ⟨Nat.le_of_ble_eq_true rfl, Nat.le_of_ble_eq_true rfl⟩ ⟨rfl, rfl⟩ rfl d_Pieces_isWhole_140 (fun x12 σ13 => ?_)
          refine kw_aload_n C d_Pieces_isWhole_143 rfl ?_
          refine kw_getR C fi_Pieces_9 rfl rfl ht d_Pieces_isWhole_144 (fun o14 ho14 => ?_)
          refine kw_iload_n C d_Pieces_isWhole_147 rfl ?_
          refine kw_iconst (v := 4) C d_Pieces_isWhole_148 (by decide) ?_
          refine kw_iadd C d_Pieces_isWhole_149 ?_
          refine kw_iload_n C d_Pieces_isWhole_150 rfl ?_
          refine kw_callVi (cl' := 0) (sl' := 0) (As := [.int (a0 + 4), .int x10]) C (c_Tape_check hl n ids ho14 (a0 + 4) x10 σ13) mi_Pieces_80 v_Tape_check ⟨_, _, rfl⟩ ho14 ⟨Nat.le_of_ble_eq_true rfl, Nat.le_of_ble_eq_true rfl⟩ (Nat.le_of_ble_eq_true rfl) ⟨Nat.le_of_ble_eq_true rfl, Nat.le_of_ble_eq_true rfl⟩ ⟨rfl, rfl⟩ rfl d_Pieces_isWhole_151 (fun x15 σ16 => ?_)
          refine kw_j (α := Int32) (pcj := 174) (Lj := fun x18 => [none, none, none, none]) (stj := fun x18 => [.int x18]) (fun x18 σ19 => ?_) (fun k17 hk17 => ?_)
          · exact kw_zret C Ce rfl (by simp) (fun _ _ => rfl) (Nat.le_of_ble_eq_true rfl) (Nat.le_of_ble_eq_true rfl) rfl d_Pieces_isWhole_174
          · refine kw_j (α := Unit) (pcj := 169) (Lj := fun x21 => [none, none, none, none]) (stj := fun x21 => []) (fun x21 σ22 => ?_) (fun k20 hk20 => ?_)
            · refine kw_iconst (v := 1) C d_Pieces_isWhole_169 (by decide) ?_
              refine kw_goto (tgt := 174) C d_Pieces_isWhole_170 (by decide) ?_
              exact kw_wk (hk17 1 σ22) ⟨Or.inl rfl, Or.inl rfl, Or.inl rfl, Or.inl rfl, trivial⟩
            · refine kw_icmp_eq (tgt := 169) C d_Pieces_isWhole_154 (by decide) ?_ ?_
              · exact kw_wk (hk20 () σ16) ⟨Or.inl rfl, Or.inl rfl, Or.inl rfl, Or.inl rfl, trivial⟩
              · refine kw_aload_n C d_Pieces_isWhole_157 rfl ?_
                refine kw_getR C fi_Pieces_15 rfl rfl ht d_Pieces_isWhole_158 (fun o23 ho23 => ?_)
                refine kw_iconst (v := 5) C d_Pieces_isWhole_161 (by decide) ?_
                refine kw_iload_n C d_Pieces_isWhole_162 rfl ?_
                refine kw_callVi (cl' := 0) (sl' := 0) (As := [.int 5, .int x10]) C (c_Fault_refuse hl n ids ho23 5 x10 σ16) mi_Pieces_58 v_Fault_refuse ⟨_, _, rfl⟩ ho23 ⟨Nat.le_of_ble_eq_true rfl, Nat.le_of_ble_eq_true rfl⟩ (Nat.le_of_ble_eq_true rfl) ⟨Nat.le_of_ble_eq_true rfl, Nat.le_of_ble_eq_true rfl⟩ ⟨rfl, rfl⟩ rfl d_Pieces_isWhole_163 (fun x24 σ25 => ?_)
                refine kw_if_eq (tgt := 173) C d_Pieces_isWhole_166 (by decide) ?_ ?_
                · refine kw_iconst (v := 0) C d_Pieces_isWhole_173 (by decide) ?_
                  exact kw_wk (hk17 0 σ25) ⟨Or.inl rfl, Or.inl rfl, Or.inl rfl, Or.inl rfl, trivial⟩
                · exact kw_wk (hk20 () σ25) ⟨Or.inl rfl, Or.inl rfl, Or.inl rfl, Or.inl rfl, trivial⟩
        · refine kw_aload_n C d_Pieces_isWhole_112 rfl ?_
          refine kw_getR C fi_Pieces_15 rfl rfl ht d_Pieces_isWhole_113 (fun o26 ho26 => ?_)
          refine kw_iconst (v := 2) C d_Pieces_isWhole_116 (by decide) ?_
          refine kw_aload_n C d_Pieces_isWhole_117 rfl ?_
          refine kw_getR C fi_Pieces_9 rfl rfl ht d_Pieces_isWhole_118 (fun o27 ho27 => ?_)
          refine kw_getI C fi_Pieces_52 (Or.inl rfl) ho27 d_Pieces_isWhole_121 ?_
          refine kw_callVi (cl' := 0) (sl' := 0) (As := [.int 2, .int (gS σ8 (64 * o27 + 1))]) C (c_Fault_refuse hl n ids ho26 2 (gS σ8 (64 * o27 + 1)) σ8) mi_Pieces_58 v_Fault_refuse ⟨_, _, rfl⟩ ho26 ⟨Nat.le_of_ble_eq_true rfl, Nat.le_of_ble_eq_true rfl⟩ (Nat.le_of_ble_eq_true rfl) ⟨Nat.le_of_ble_eq_true rfl, Nat.le_of_ble_eq_true rfl⟩ ⟨rfl, rfl⟩ rfl d_Pieces_isWhole_124 (fun x28 σ29 => ?_)
          exact kw_zret C Ce rfl (by simp) (fun _ _ => rfl) (Nat.le_of_ble_eq_true rfl) (Nat.le_of_ble_eq_true rfl) rfl d_Pieces_isWhole_127
      · refine kw_aload_n C d_Pieces_isWhole_65 rfl ?_
        refine kw_getR C fi_Pieces_9 rfl rfl ht d_Pieces_isWhole_66 (fun o30 ho30 => ?_)
        refine kw_getR C fi_Pieces_55 rfl rfl ho30 d_Pieces_isWhole_69 (fun o31 ho31 => ?_)
        refine kw_iload_n C d_Pieces_isWhole_72 rfl ?_
        refine kw_iald C (Or.inl ⟨ho31.1, ho31.2.1⟩) d_Pieces_isWhole_73 ?_
        refine kw_callSi (cl' := 0) (sl' := 0) (As := [.int (gB σ8 o31 x7.toNatClampNeg)]) C (c_Pieces_isLetter hl n ids  (gB σ8 o31 x7.toNatClampNeg) σ8) mi_Pieces_77 s_Pieces_isLetter ⟨Nat.le_of_ble_eq_true rfl, Nat.le_of_ble_eq_true rfl⟩ (Nat.le_of_ble_eq_true rfl) ⟨Nat.le_of_ble_eq_true rfl, Nat.le_of_ble_eq_true rfl⟩ ⟨rfl, rfl⟩ rfl d_Pieces_isWhole_74 (fun x32 σ33 => ?_)
        refine kw_if_ne (tgt := 90) C d_Pieces_isWhole_77 (by decide) ?_ ?_
        · refine kw_iincL (L2 := fun x34 => [some (.ref t), some (.int a0), some (.int x3), some (.int x34)]) C d_Pieces_isWhole_90 (by decide) rfl (fun _ => rfl) (fun x34 => ?_)
          refine kw_goto (tgt := 57) C d_Pieces_isWhole_93 (by decide) ?_
          exact kw_wk (hk6 x34 σ33) ⟨Or.inr rfl, Or.inr rfl, Or.inr rfl, Or.inr rfl, trivial⟩
        · refine kw_aload_n C d_Pieces_isWhole_80 rfl ?_
          refine kw_getR C fi_Pieces_15 rfl rfl ht d_Pieces_isWhole_81 (fun o35 ho35 => ?_)
          refine kw_iconst (v := 4) C d_Pieces_isWhole_84 (by decide) ?_
          refine kw_iload_n C d_Pieces_isWhole_85 rfl ?_
          refine kw_callVi (cl' := 0) (sl' := 0) (As := [.int 4, .int x7]) C (c_Fault_refuse hl n ids ho35 4 x7 σ33) mi_Pieces_58 v_Fault_refuse ⟨_, _, rfl⟩ ho35 ⟨Nat.le_of_ble_eq_true rfl, Nat.le_of_ble_eq_true rfl⟩ (Nat.le_of_ble_eq_true rfl) ⟨Nat.le_of_ble_eq_true rfl, Nat.le_of_ble_eq_true rfl⟩ ⟨rfl, rfl⟩ rfl d_Pieces_isWhole_86 (fun x36 σ37 => ?_)
          exact kw_zret C Ce rfl (by simp) (fun _ _ => rfl) (Nat.le_of_ble_eq_true rfl) (Nat.le_of_ble_eq_true rfl) rfl d_Pieces_isWhole_89
    · refine kw_aload_n C d_Pieces_isWhole_43 rfl ?_
      refine kw_getR C fi_Pieces_15 rfl rfl ht d_Pieces_isWhole_44 (fun o38 ho38 => ?_)
      refine kw_iconst (v := 3) C d_Pieces_isWhole_47 (by decide) ?_
      refine kw_iload_n C d_Pieces_isWhole_48 rfl ?_
      refine kw_callVi (cl' := 0) (sl' := 0) (As := [.int 3, .int a0]) C (c_Fault_refuse hl n ids ho38 3 a0 σ4) mi_Pieces_58 v_Fault_refuse ⟨_, _, rfl⟩ ho38 ⟨Nat.le_of_ble_eq_true rfl, Nat.le_of_ble_eq_true rfl⟩ (Nat.le_of_ble_eq_true rfl) ⟨Nat.le_of_ble_eq_true rfl, Nat.le_of_ble_eq_true rfl⟩ ⟨rfl, rfl⟩ rfl d_Pieces_isWhole_49 (fun x39 σ40 => ?_)
      exact kw_zret C Ce rfl (by simp) (fun _ _ => rfl) (Nat.le_of_ble_eq_true rfl) (Nat.le_of_ble_eq_true rfl) rfl d_Pieces_isWhole_52
  · refine kw_aload_n C d_Pieces_isWhole_14 rfl ?_
    refine kw_getR C fi_Pieces_15 rfl rfl ht d_Pieces_isWhole_15 (fun o41 ho41 => ?_)
    refine kw_iconst (v := 2) C d_Pieces_isWhole_18 (by decide) ?_
    refine kw_aload_n C d_Pieces_isWhole_19 rfl ?_
    refine kw_getR C fi_Pieces_9 rfl rfl ht d_Pieces_isWhole_20 (fun o42 ho42 => ?_)
    refine kw_getI C fi_Pieces_52 (Or.inl rfl) ho42 d_Pieces_isWhole_23 ?_
    refine kw_callVi (cl' := 0) (sl' := 0) (As := [.int 2, .int (gS σ (64 * o42 + 1))]) C (c_Fault_refuse hl n ids ho41 2 (gS σ (64 * o42 + 1)) σ) mi_Pieces_58 v_Fault_refuse ⟨_, _, rfl⟩ ho41 ⟨Nat.le_of_ble_eq_true rfl, Nat.le_of_ble_eq_true rfl⟩ (Nat.le_of_ble_eq_true rfl) ⟨Nat.le_of_ble_eq_true rfl, Nat.le_of_ble_eq_true rfl⟩ ⟨rfl, rfl⟩ rfl d_Pieces_isWhole_26 (fun x43 σ44 => ?_)
    exact kw_zret C Ce rfl (by simp) (fun _ _ => rfl) (Nat.le_of_ble_eq_true rfl) (Nat.le_of_ble_eq_true rfl) rfl d_Pieces_isWhole_29
/-! Picture_mayHaveColours -/
def rm_Picture_mayHaveColours : Room := { frames := 0, cells := 0, slots := 0, locals := 0 }
def F_Picture_mayHaveColours (n : Nat) (a0 : Int32) (σ : Mm) : Option (Int32 × Mm) :=
kf_j (α := Int32) (fun x2 σ3 =>
kf_z x2 (some (x2, σ3))) fun k1 =>
kf_j (α := Unit) (fun x5 σ6 =>
k1 1 σ6) fun k4 =>
if a0 = 2 then (
k4 () σ) else (
if a0 = 3 then (
k4 () σ) else (
if a0 = 6 then (
k4 () σ) else (
k1 0 σ)))
theorem d_Picture_mayHaveColours_0 : decode prog_7_method_5_code 0 = .ok (.iload_n 0, 1) := by decide +kernel
theorem d_Picture_mayHaveColours_1 : decode prog_7_method_5_code 1 = .ok (.iconst 2, 1) := by decide +kernel
theorem d_Picture_mayHaveColours_2 : decode prog_7_method_5_code 2 = .ok (.if_icmp .eq 14, 3) := by decide +kernel
theorem d_Picture_mayHaveColours_5 : decode prog_7_method_5_code 5 = .ok (.iload_n 0, 1) := by decide +kernel
theorem d_Picture_mayHaveColours_6 : decode prog_7_method_5_code 6 = .ok (.iconst 3, 1) := by decide +kernel
theorem d_Picture_mayHaveColours_7 : decode prog_7_method_5_code 7 = .ok (.if_icmp .eq 9, 3) := by decide +kernel
theorem d_Picture_mayHaveColours_10 : decode prog_7_method_5_code 10 = .ok (.iload_n 0, 1) := by decide +kernel
theorem d_Picture_mayHaveColours_11 : decode prog_7_method_5_code 11 = .ok (.bipush 6, 2) := by decide +kernel
theorem d_Picture_mayHaveColours_13 : decode prog_7_method_5_code 13 = .ok (.if_icmp .ne 7, 3) := by decide +kernel
theorem d_Picture_mayHaveColours_16 : decode prog_7_method_5_code 16 = .ok (.iconst 1, 1) := by decide +kernel
theorem d_Picture_mayHaveColours_17 : decode prog_7_method_5_code 17 = .ok (.goto 4, 3) := by decide +kernel
theorem d_Picture_mayHaveColours_20 : decode prog_7_method_5_code 20 = .ok (.iconst 0, 1) := by decide +kernel
theorem d_Picture_mayHaveColours_21 : decode prog_7_method_5_code 21 = .ok (.ireturn, 1) := by decide +kernel
set_option maxRecDepth 100000 in
set_option maxHeartbeats 4000000 in
theorem c_Picture_mayHaveColours {l0 : Launch} (hl : l0.stackTraces = false) (n : Nat) (ids : List Nat)  (a0 : Int32) (σ : Mm) : kw_C l0 y_Picture_mayHaveColours (Cond.code y_Picture_mayHaveColours prog_7_method_5_code 1 (some .boolean) :: kw_Ts) rm_Picture_mayHaveColours kw_oi ids [] [.int a0] σ (F_Picture_mayHaveColours n a0 σ) := by
  refine kw_start (L0 := [some (.int a0)]) hl (by decide +kernel) (Nat.le_of_ble_eq_true rfl) rfl (fun Γ ad C Ce => ?_)
  unfold F_Picture_mayHaveColours
  refine kw_iload_n C d_Picture_mayHaveColours_0 rfl ?_
  refine kw_iconst (v := 2) C d_Picture_mayHaveColours_1 (by decide) ?_
  refine kw_j (α := Int32) (pcj := 21) (Lj := fun x2 => [none]) (stj := fun x2 => [.int x2]) (fun x2 σ3 => ?_) (fun k1 hk1 => ?_)
  · exact kw_zret C Ce rfl (by simp) (fun _ _ => rfl) (Nat.le_of_ble_eq_true rfl) (Nat.le_of_ble_eq_true rfl) rfl d_Picture_mayHaveColours_21
  · refine kw_j (α := Unit) (pcj := 16) (Lj := fun x5 => [none]) (stj := fun x5 => []) (fun x5 σ6 => ?_) (fun k4 hk4 => ?_)
    · refine kw_iconst (v := 1) C d_Picture_mayHaveColours_16 (by decide) ?_
      refine kw_goto (tgt := 21) C d_Picture_mayHaveColours_17 (by decide) ?_
      exact kw_wk (hk1 1 σ6) ⟨Or.inl rfl, trivial⟩
    · refine kw_icmp_eq (tgt := 16) C d_Picture_mayHaveColours_2 (by decide) ?_ ?_
      · exact kw_wk (hk4 () σ) ⟨Or.inl rfl, trivial⟩
      · refine kw_iload_n C d_Picture_mayHaveColours_5 rfl ?_
        refine kw_iconst (v := 3) C d_Picture_mayHaveColours_6 (by decide) ?_
        refine kw_icmp_eq (tgt := 16) C d_Picture_mayHaveColours_7 (by decide) ?_ ?_
        · exact kw_wk (hk4 () σ) ⟨Or.inl rfl, trivial⟩
        · refine kw_iload_n C d_Picture_mayHaveColours_10 rfl ?_
          refine kw_bipush (v := 6) C d_Picture_mayHaveColours_11 (by decide) ?_
          refine kw_icmp_ne (tgt := 20) C d_Picture_mayHaveColours_13 (by decide) ?_ ?_
          · refine kw_iconst (v := 0) C d_Picture_mayHaveColours_20 (by decide) ?_
            exact kw_wk (hk1 0 σ) ⟨Or.inl rfl, trivial⟩
          · exact kw_wk (hk4 () σ) ⟨Or.inl rfl, trivial⟩
/-! Picture_mayHaveThins -/
def rm_Picture_mayHaveThins : Room := { frames := 0, cells := 0, slots := 0, locals := 0 }
def F_Picture_mayHaveThins (n : Nat) (a0 : Int32) (σ : Mm) : Option (Int32 × Mm) :=
kf_j (α := Int32) (fun x2 σ3 =>
kf_z x2 (some (x2, σ3))) fun k1 =>
kf_j (α := Unit) (fun x5 σ6 =>
k1 1 σ6) fun k4 =>
if a0 = 0 then (
k4 () σ) else (
if a0 = 2 then (
k4 () σ) else (
if a0 = 3 then (
k4 () σ) else (
k1 0 σ)))
theorem d_Picture_mayHaveThins_0 : decode prog_7_method_6_code 0 = .ok (.iload_n 0, 1) := by decide +kernel
theorem d_Picture_mayHaveThins_1 : decode prog_7_method_6_code 1 = .ok (.ifCond .eq 13, 3) := by decide +kernel
theorem d_Picture_mayHaveThins_4 : decode prog_7_method_6_code 4 = .ok (.iload_n 0, 1) := by decide +kernel
theorem d_Picture_mayHaveThins_5 : decode prog_7_method_6_code 5 = .ok (.iconst 2, 1) := by decide +kernel
theorem d_Picture_mayHaveThins_6 : decode prog_7_method_6_code 6 = .ok (.if_icmp .eq 8, 3) := by decide +kernel
theorem d_Picture_mayHaveThins_9 : decode prog_7_method_6_code 9 = .ok (.iload_n 0, 1) := by decide +kernel
theorem d_Picture_mayHaveThins_10 : decode prog_7_method_6_code 10 = .ok (.iconst 3, 1) := by decide +kernel
theorem d_Picture_mayHaveThins_11 : decode prog_7_method_6_code 11 = .ok (.if_icmp .ne 7, 3) := by decide +kernel
theorem d_Picture_mayHaveThins_14 : decode prog_7_method_6_code 14 = .ok (.iconst 1, 1) := by decide +kernel
theorem d_Picture_mayHaveThins_15 : decode prog_7_method_6_code 15 = .ok (.goto 4, 3) := by decide +kernel
theorem d_Picture_mayHaveThins_18 : decode prog_7_method_6_code 18 = .ok (.iconst 0, 1) := by decide +kernel
theorem d_Picture_mayHaveThins_19 : decode prog_7_method_6_code 19 = .ok (.ireturn, 1) := by decide +kernel
set_option maxRecDepth 100000 in
set_option maxHeartbeats 4000000 in
theorem c_Picture_mayHaveThins {l0 : Launch} (hl : l0.stackTraces = false) (n : Nat) (ids : List Nat)  (a0 : Int32) (σ : Mm) : kw_C l0 y_Picture_mayHaveThins (Cond.code y_Picture_mayHaveThins prog_7_method_6_code 1 (some .boolean) :: kw_Ts) rm_Picture_mayHaveThins kw_oi ids [] [.int a0] σ (F_Picture_mayHaveThins n a0 σ) := by
  refine kw_start (L0 := [some (.int a0)]) hl (by decide +kernel) (Nat.le_of_ble_eq_true rfl) rfl (fun Γ ad C Ce => ?_)
  unfold F_Picture_mayHaveThins
  refine kw_iload_n C d_Picture_mayHaveThins_0 rfl ?_
  refine kw_j (α := Int32) (pcj := 19) (Lj := fun x2 => [none]) (stj := fun x2 => [.int x2]) (fun x2 σ3 => ?_) (fun k1 hk1 => ?_)
  · exact kw_zret C Ce rfl (by simp) (fun _ _ => rfl) (Nat.le_of_ble_eq_true rfl) (Nat.le_of_ble_eq_true rfl) rfl d_Picture_mayHaveThins_19
  · refine kw_j (α := Unit) (pcj := 14) (Lj := fun x5 => [none]) (stj := fun x5 => []) (fun x5 σ6 => ?_) (fun k4 hk4 => ?_)
    · refine kw_iconst (v := 1) C d_Picture_mayHaveThins_14 (by decide) ?_
      refine kw_goto (tgt := 19) C d_Picture_mayHaveThins_15 (by decide) ?_
      exact kw_wk (hk1 1 σ6) ⟨Or.inl rfl, trivial⟩
    · refine kw_if_eq (tgt := 14) C d_Picture_mayHaveThins_1 (by decide) ?_ ?_
      · exact kw_wk (hk4 () σ) ⟨Or.inl rfl, trivial⟩
      · refine kw_iload_n C d_Picture_mayHaveThins_4 rfl ?_
        refine kw_iconst (v := 2) C d_Picture_mayHaveThins_5 (by decide) ?_
        refine kw_icmp_eq (tgt := 14) C d_Picture_mayHaveThins_6 (by decide) ?_ ?_
        · exact kw_wk (hk4 () σ) ⟨Or.inl rfl, trivial⟩
        · refine kw_iload_n C d_Picture_mayHaveThins_9 rfl ?_
          refine kw_iconst (v := 3) C d_Picture_mayHaveThins_10 (by decide) ?_
          refine kw_icmp_ne (tgt := 18) C d_Picture_mayHaveThins_11 (by decide) ?_ ?_
          · refine kw_iconst (v := 0) C d_Picture_mayHaveThins_18 (by decide) ?_
            exact kw_wk (hk1 0 σ) ⟨Or.inl rfl, trivial⟩
          · exact kw_wk (hk4 () σ) ⟨Or.inl rfl, trivial⟩
/-! Pieces_mayStand -/
def rm_Pieces_mayStand : Room := { frames := 1, cells := 0, slots := 0, locals := 20 }
def F_Pieces_mayStand (n : Nat) (t : Nat) (a0 : Int32) (σ : Mm) : Option (Int32 × Mm) :=
kf_j (α := Unit) (fun x2 σ3 =>
kf_j (α := Int32) (fun x5 σ6 =>
kf_z x5 (some (x5, σ6))) fun k4 =>
kf_j (α := Unit) (fun x8 σ9 =>
k4 0 σ9) fun k7 =>
if (gS σ3 (64 * t + 4)) = 0 then (
if a0 = 1229472850 then (
k4 1 σ3) else (
k7 () σ3)) else (
k7 () σ3)) fun k1 =>
if (gS σ (64 * t + 4)) = 0 then (
k1 () σ) else (
if a0 = 1229472850 then (
k1 () σ) else (
Option.bind (gR σ (64 * t + 3)) fun o10 =>
kf_j (α := Int32) (fun x12 σ13 =>
if a0 = 1229209940 then (
kf_j (α := Int32) (fun x15 σ16 =>
kf_z x15 (some (x15, σ16))) fun k14 =>
kf_j (α := Unit) (fun x18 σ19 =>
k14 0 σ19) fun k17 =>
if x12 = 0 then (
kf_j (α := Unit) (fun x21 σ22 =>
k14 1 σ22) fun k20 =>
if (gS σ13 (64 * t + 7)) = 0 then (
k20 () σ13) else (
if (gS σ13 (64 * t + 4)) = 1229209940 then (
k20 () σ13) else (
k17 () σ13))) else (
k17 () σ13)) else (
if a0 = 1229278788 then (
kf_z (gS σ13 (64 * t + 7)) (some (gS σ13 (64 * t + 7), σ13))) else (
if a0 = 1347179589 then (
Option.bind (gR σ13 (64 * t + 3)) fun o25 =>
kf_c2 (F_Picture_mayHaveColours n (gS σ13 (64 * o25 + 2)) σ13) fun x26 σ27 =>
kf_j (α := Int32) (fun x29 σ30 =>
kf_z x29 (some (x29, σ30))) fun k28 =>
kf_j (α := Unit) (fun x32 σ33 =>
k28 0 σ33) fun k31 =>
if x26 = 0 then (
k31 () σ27) else (
if (gS σ27 (64 * t + 5)) = 0 then (
if (gS σ27 (64 * t + 6)) = 0 then (
if (gS σ27 (64 * t + 7)) = 0 then (
k28 1 σ27) else (
k31 () σ27)) else (
k31 () σ27)) else (
k31 () σ27))) else (
if a0 = 1951551059 then (
Option.bind (gR σ13 (64 * t + 3)) fun o35 =>
kf_c2 (F_Picture_mayHaveThins n (gS σ13 (64 * o35 + 2)) σ13) fun x36 σ37 =>
kf_j (α := Int32) (fun x39 σ40 =>
kf_z x39 (some (x39, σ40))) fun k38 =>
kf_j (α := Unit) (fun x42 σ43 =>
k38 0 σ43) fun k41 =>
if x36 = 0 then (
k41 () σ37) else (
if x12 = 0 then (
if (gS σ37 (64 * t + 6)) = 0 then (
if (gS σ37 (64 * t + 7)) = 0 then (
k38 1 σ37) else (
k41 () σ37)) else (
k41 () σ37)) else (
k41 () σ37))) else (
kf_z 1 (some (1, σ13))))))) fun k11 =>
kf_j (α := Unit) (fun x46 σ47 =>
k11 0 σ47) fun k45 =>
if (gS σ (64 * o10 + 2)) = 3 then (
if (gS σ (64 * t + 5)) = 0 then (
k11 1 σ) else (
k45 () σ)) else (
k45 () σ)))
theorem d_Pieces_mayStand_0 : decode prog_8_method_6_code 0 = .ok (.aload_n 0, 1) := by decide +kernel
theorem d_Pieces_mayStand_1 : decode prog_8_method_6_code 1 = .ok (.getfield 27, 3) := by decide +kernel
theorem d_Pieces_mayStand_4 : decode prog_8_method_6_code 4 = .ok (.ifCond .eq 9, 3) := by decide +kernel
theorem d_Pieces_mayStand_7 : decode prog_8_method_6_code 7 = .ok (.iload_n 1, 1) := by decide +kernel
theorem d_Pieces_mayStand_8 : decode prog_8_method_6_code 8 = .ok (.ldc 99, 2) := by decide +kernel
theorem d_Pieces_mayStand_10 : decode prog_8_method_6_code 10 = .ok (.if_icmp .ne 22, 3) := by decide +kernel
theorem d_Pieces_mayStand_13 : decode prog_8_method_6_code 13 = .ok (.aload_n 0, 1) := by decide +kernel
theorem d_Pieces_mayStand_14 : decode prog_8_method_6_code 14 = .ok (.getfield 27, 3) := by decide +kernel
theorem d_Pieces_mayStand_17 : decode prog_8_method_6_code 17 = .ok (.ifCond .ne 13, 3) := by decide +kernel
theorem d_Pieces_mayStand_20 : decode prog_8_method_6_code 20 = .ok (.iload_n 1, 1) := by decide +kernel
theorem d_Pieces_mayStand_21 : decode prog_8_method_6_code 21 = .ok (.ldc 99, 2) := by decide +kernel
theorem d_Pieces_mayStand_23 : decode prog_8_method_6_code 23 = .ok (.if_icmp .ne 7, 3) := by decide +kernel
theorem d_Pieces_mayStand_26 : decode prog_8_method_6_code 26 = .ok (.iconst 1, 1) := by decide +kernel
theorem d_Pieces_mayStand_27 : decode prog_8_method_6_code 27 = .ok (.goto 4, 3) := by decide +kernel
theorem d_Pieces_mayStand_30 : decode prog_8_method_6_code 30 = .ok (.iconst 0, 1) := by decide +kernel
theorem d_Pieces_mayStand_31 : decode prog_8_method_6_code 31 = .ok (.ireturn, 1) := by decide +kernel
theorem d_Pieces_mayStand_32 : decode prog_8_method_6_code 32 = .ok (.aload_n 0, 1) := by decide +kernel
theorem d_Pieces_mayStand_33 : decode prog_8_method_6_code 33 = .ok (.getfield 23, 3) := by decide +kernel
theorem d_Pieces_mayStand_36 : decode prog_8_method_6_code 36 = .ok (.getfield 100, 3) := by decide +kernel
theorem d_Pieces_mayStand_39 : decode prog_8_method_6_code 39 = .ok (.iconst 3, 1) := by decide +kernel
theorem d_Pieces_mayStand_40 : decode prog_8_method_6_code 40 = .ok (.if_icmp .ne 14, 3) := by decide +kernel
theorem d_Pieces_mayStand_43 : decode prog_8_method_6_code 43 = .ok (.aload_n 0, 1) := by decide +kernel
theorem d_Pieces_mayStand_44 : decode prog_8_method_6_code 44 = .ok (.getfield 31, 3) := by decide +kernel
theorem d_Pieces_mayStand_47 : decode prog_8_method_6_code 47 = .ok (.ifCond .ne 7, 3) := by decide +kernel
theorem d_Pieces_mayStand_50 : decode prog_8_method_6_code 50 = .ok (.iconst 1, 1) := by decide +kernel
theorem d_Pieces_mayStand_51 : decode prog_8_method_6_code 51 = .ok (.goto 4, 3) := by decide +kernel
theorem d_Pieces_mayStand_54 : decode prog_8_method_6_code 54 = .ok (.iconst 0, 1) := by decide +kernel
theorem d_Pieces_mayStand_55 : decode prog_8_method_6_code 55 = .ok (.istore_n 2, 1) := by decide +kernel
theorem d_Pieces_mayStand_56 : decode prog_8_method_6_code 56 = .ok (.iload_n 1, 1) := by decide +kernel
theorem d_Pieces_mayStand_57 : decode prog_8_method_6_code 57 = .ok (.lookupswitch 151 #[(1229209940, 120), (1229278788, 146), (1347179589, 43), (1951551059, 83)], 43) := by decide +kernel
theorem d_Pieces_mayStand_100 : decode prog_8_method_6_code 100 = .ok (.aload_n 0, 1) := by decide +kernel
theorem d_Pieces_mayStand_101 : decode prog_8_method_6_code 101 = .ok (.getfield 23, 3) := by decide +kernel
theorem d_Pieces_mayStand_104 : decode prog_8_method_6_code 104 = .ok (.getfield 100, 3) := by decide +kernel
theorem d_Pieces_mayStand_107 : decode prog_8_method_6_code 107 = .ok (.invokestatic 105, 3) := by decide +kernel
theorem d_Pieces_mayStand_110 : decode prog_8_method_6_code 110 = .ok (.ifCond .eq 28, 3) := by decide +kernel
theorem d_Pieces_mayStand_113 : decode prog_8_method_6_code 113 = .ok (.aload_n 0, 1) := by decide +kernel
theorem d_Pieces_mayStand_114 : decode prog_8_method_6_code 114 = .ok (.getfield 31, 3) := by decide +kernel
theorem d_Pieces_mayStand_117 : decode prog_8_method_6_code 117 = .ok (.ifCond .ne 21, 3) := by decide +kernel
theorem d_Pieces_mayStand_120 : decode prog_8_method_6_code 120 = .ok (.aload_n 0, 1) := by decide +kernel
theorem d_Pieces_mayStand_121 : decode prog_8_method_6_code 121 = .ok (.getfield 35, 3) := by decide +kernel
theorem d_Pieces_mayStand_124 : decode prog_8_method_6_code 124 = .ok (.ifCond .ne 14, 3) := by decide +kernel
theorem d_Pieces_mayStand_127 : decode prog_8_method_6_code 127 = .ok (.aload_n 0, 1) := by decide +kernel
theorem d_Pieces_mayStand_128 : decode prog_8_method_6_code 128 = .ok (.getfield 38, 3) := by decide +kernel
theorem d_Pieces_mayStand_131 : decode prog_8_method_6_code 131 = .ok (.ifCond .ne 7, 3) := by decide +kernel
theorem d_Pieces_mayStand_134 : decode prog_8_method_6_code 134 = .ok (.iconst 1, 1) := by decide +kernel
theorem d_Pieces_mayStand_135 : decode prog_8_method_6_code 135 = .ok (.goto 4, 3) := by decide +kernel
theorem d_Pieces_mayStand_138 : decode prog_8_method_6_code 138 = .ok (.iconst 0, 1) := by decide +kernel
theorem d_Pieces_mayStand_139 : decode prog_8_method_6_code 139 = .ok (.ireturn, 1) := by decide +kernel
theorem d_Pieces_mayStand_140 : decode prog_8_method_6_code 140 = .ok (.aload_n 0, 1) := by decide +kernel
theorem d_Pieces_mayStand_141 : decode prog_8_method_6_code 141 = .ok (.getfield 23, 3) := by decide +kernel
theorem d_Pieces_mayStand_144 : decode prog_8_method_6_code 144 = .ok (.getfield 100, 3) := by decide +kernel
theorem d_Pieces_mayStand_147 : decode prog_8_method_6_code 147 = .ok (.invokestatic 108, 3) := by decide +kernel
theorem d_Pieces_mayStand_150 : decode prog_8_method_6_code 150 = .ok (.ifCond .eq 25, 3) := by decide +kernel
theorem d_Pieces_mayStand_153 : decode prog_8_method_6_code 153 = .ok (.iload_n 2, 1) := by decide +kernel
theorem d_Pieces_mayStand_154 : decode prog_8_method_6_code 154 = .ok (.ifCond .ne 21, 3) := by decide +kernel
theorem d_Pieces_mayStand_157 : decode prog_8_method_6_code 157 = .ok (.aload_n 0, 1) := by decide +kernel
theorem d_Pieces_mayStand_158 : decode prog_8_method_6_code 158 = .ok (.getfield 35, 3) := by decide +kernel
theorem d_Pieces_mayStand_161 : decode prog_8_method_6_code 161 = .ok (.ifCond .ne 14, 3) := by decide +kernel
theorem d_Pieces_mayStand_164 : decode prog_8_method_6_code 164 = .ok (.aload_n 0, 1) := by decide +kernel
theorem d_Pieces_mayStand_165 : decode prog_8_method_6_code 165 = .ok (.getfield 38, 3) := by decide +kernel
theorem d_Pieces_mayStand_168 : decode prog_8_method_6_code 168 = .ok (.ifCond .ne 7, 3) := by decide +kernel
theorem d_Pieces_mayStand_171 : decode prog_8_method_6_code 171 = .ok (.iconst 1, 1) := by decide +kernel
theorem d_Pieces_mayStand_172 : decode prog_8_method_6_code 172 = .ok (.goto 4, 3) := by decide +kernel
theorem d_Pieces_mayStand_175 : decode prog_8_method_6_code 175 = .ok (.iconst 0, 1) := by decide +kernel
theorem d_Pieces_mayStand_176 : decode prog_8_method_6_code 176 = .ok (.ireturn, 1) := by decide +kernel
theorem d_Pieces_mayStand_177 : decode prog_8_method_6_code 177 = .ok (.iload_n 2, 1) := by decide +kernel
theorem d_Pieces_mayStand_178 : decode prog_8_method_6_code 178 = .ok (.ifCond .ne 23, 3) := by decide +kernel
theorem d_Pieces_mayStand_181 : decode prog_8_method_6_code 181 = .ok (.aload_n 0, 1) := by decide +kernel
theorem d_Pieces_mayStand_182 : decode prog_8_method_6_code 182 = .ok (.getfield 38, 3) := by decide +kernel
theorem d_Pieces_mayStand_185 : decode prog_8_method_6_code 185 = .ok (.ifCond .eq 12, 3) := by decide +kernel
theorem d_Pieces_mayStand_188 : decode prog_8_method_6_code 188 = .ok (.aload_n 0, 1) := by decide +kernel
theorem d_Pieces_mayStand_189 : decode prog_8_method_6_code 189 = .ok (.getfield 27, 3) := by decide +kernel
theorem d_Pieces_mayStand_192 : decode prog_8_method_6_code 192 = .ok (.ldc 111, 2) := by decide +kernel
theorem d_Pieces_mayStand_194 : decode prog_8_method_6_code 194 = .ok (.if_icmp .ne 7, 3) := by decide +kernel
theorem d_Pieces_mayStand_197 : decode prog_8_method_6_code 197 = .ok (.iconst 1, 1) := by decide +kernel
theorem d_Pieces_mayStand_198 : decode prog_8_method_6_code 198 = .ok (.goto 4, 3) := by decide +kernel
theorem d_Pieces_mayStand_201 : decode prog_8_method_6_code 201 = .ok (.iconst 0, 1) := by decide +kernel
theorem d_Pieces_mayStand_202 : decode prog_8_method_6_code 202 = .ok (.ireturn, 1) := by decide +kernel
theorem d_Pieces_mayStand_203 : decode prog_8_method_6_code 203 = .ok (.aload_n 0, 1) := by decide +kernel
theorem d_Pieces_mayStand_204 : decode prog_8_method_6_code 204 = .ok (.getfield 38, 3) := by decide +kernel
theorem d_Pieces_mayStand_207 : decode prog_8_method_6_code 207 = .ok (.ireturn, 1) := by decide +kernel
theorem d_Pieces_mayStand_208 : decode prog_8_method_6_code 208 = .ok (.iconst 1, 1) := by decide +kernel
theorem d_Pieces_mayStand_209 : decode prog_8_method_6_code 209 = .ok (.ireturn, 1) := by decide +kernel
set_option maxRecDepth 100000 in
set_option maxHeartbeats 4000000 in
theorem c_Pieces_mayStand {l0 : Launch} (hl : l0.stackTraces = false) (n : Nat) (ids : List Nat) {t : Nat} (ht : mm_ok ids t 1 5) (a0 : Int32) (σ : Mm) : kw_C l0 y_Pieces_mayStand (Cond.code y_Pieces_mayStand prog_8_method_6_code 3 (some .boolean) :: kw_Ts) rm_Pieces_mayStand kw_oi ids [] [.ref t, .int a0] σ (F_Pieces_mayStand n t a0 σ) := by
  refine kw_start (L0 := [some (.ref t), some (.int a0), none]) hl (by decide +kernel) (Nat.le_of_ble_eq_true rfl) rfl (fun Γ ad C Ce => ?_)
  unfold F_Pieces_mayStand
  refine kw_aload_n C d_Pieces_mayStand_0 rfl ?_
  refine kw_getI C fi_Pieces_27 (Or.inl rfl) ht d_Pieces_mayStand_1 ?_
  refine kw_j (α := Unit) (pcj := 13) (Lj := fun x2 => [some (.ref t), some (.int a0), none]) (stj := fun x2 => []) (fun x2 σ3 => ?_) (fun k1 hk1 => ?_)
  · refine kw_aload_n C d_Pieces_mayStand_13 rfl ?_
    refine kw_getI C fi_Pieces_27 (Or.inl rfl) ht d_Pieces_mayStand_14 ?_
    refine kw_j (α := Int32) (pcj := 31) (Lj := fun x5 => [none, none, none]) (stj := fun x5 => [.int x5]) (fun x5 σ6 => ?_) (fun k4 hk4 => ?_)
    · exact kw_zret C Ce rfl (by simp) (fun _ _ => rfl) (Nat.le_of_ble_eq_true rfl) (Nat.le_of_ble_eq_true rfl) rfl d_Pieces_mayStand_31
    · refine kw_j (α := Unit) (pcj := 30) (Lj := fun x8 => [none, none, none]) (stj := fun x8 => []) (fun x8 σ9 => ?_) (fun k7 hk7 => ?_)
      · refine kw_iconst (v := 0) C d_Pieces_mayStand_30 (by decide) ?_
        exact kw_wk (hk4 0 σ9) ⟨Or.inl rfl, Or.inl rfl, Or.inl rfl, trivial⟩
      · refine kw_if_ne (tgt := 30) C d_Pieces_mayStand_17 (by decide) ?_ ?_
        · exact kw_wk (hk7 () σ3) ⟨Or.inl rfl, Or.inl rfl, Or.inl rfl, trivial⟩
        · refine kw_iload_n C d_Pieces_mayStand_20 rfl ?_
          refine kw_ldc (v := 1229472850) C d_Pieces_mayStand_21 k_Pieces_99 ?_
          refine kw_icmp_ne (tgt := 30) C d_Pieces_mayStand_23 (by decide) ?_ ?_
          · exact kw_wk (hk7 () σ3) ⟨Or.inl rfl, Or.inl rfl, Or.inl rfl, trivial⟩
          · refine kw_iconst (v := 1) C d_Pieces_mayStand_26 (by decide) ?_
            refine kw_goto (tgt := 31) C d_Pieces_mayStand_27 (by decide) ?_
            exact kw_wk (hk4 1 σ3) ⟨Or.inl rfl, Or.inl rfl, Or.inl rfl, trivial⟩
  · refine kw_if_eq (tgt := 13) C d_Pieces_mayStand_4 (by decide) ?_ ?_
    · exact kw_wk (hk1 () σ) ⟨Or.inr rfl, Or.inr rfl, Or.inl rfl, trivial⟩
    · refine kw_iload_n C d_Pieces_mayStand_7 rfl ?_
      refine kw_ldc (v := 1229472850) C d_Pieces_mayStand_8 k_Pieces_99 ?_
      refine kw_icmp_ne (tgt := 32) C d_Pieces_mayStand_10 (by decide) ?_ ?_
      · refine kw_aload_n C d_Pieces_mayStand_32 rfl ?_
        refine kw_getR C fi_Pieces_23 rfl rfl ht d_Pieces_mayStand_33 (fun o10 ho10 => ?_)
        refine kw_getI C fi_Pieces_100 (Or.inl rfl) ho10 d_Pieces_mayStand_36 ?_
        refine kw_iconst (v := 3) C d_Pieces_mayStand_39 (by decide) ?_
        refine kw_j (α := Int32) (pcj := 55) (Lj := fun x12 => [some (.ref t), some (.int a0), none]) (stj := fun x12 => [.int x12]) (fun x12 σ13 => ?_) (fun k11 hk11 => ?_)
        · refine kw_istore_n (L' := [some (.ref t), some (.int a0), some (.int x12)]) C d_Pieces_mayStand_55 (by decide) rfl ?_
          refine kw_iload_n C d_Pieces_mayStand_56 rfl ?_
          refine kw_sw ?_ (fun hn23 => ?_)
          · refine kw_lsw (off := 120) (tgt := 177) C d_Pieces_mayStand_57 (by decide) (by decide) (by decide) ?_
            refine kw_iload_n C d_Pieces_mayStand_177 rfl ?_
            refine kw_j (α := Int32) (pcj := 202) (Lj := fun x15 => [none, none, none]) (stj := fun x15 => [.int x15]) (fun x15 σ16 => ?_) (fun k14 hk14 => ?_)
            · exact kw_zret C Ce rfl (by simp) (fun _ _ => rfl) (Nat.le_of_ble_eq_true rfl) (Nat.le_of_ble_eq_true rfl) rfl d_Pieces_mayStand_202
            · refine kw_j (α := Unit) (pcj := 201) (Lj := fun x18 => [none, none, none]) (stj := fun x18 => []) (fun x18 σ19 => ?_) (fun k17 hk17 => ?_)
              · refine kw_iconst (v := 0) C d_Pieces_mayStand_201 (by decide) ?_
                exact kw_wk (hk14 0 σ19) ⟨Or.inl rfl, Or.inl rfl, Or.inl rfl, trivial⟩
              · refine kw_if_ne (tgt := 201) C d_Pieces_mayStand_178 (by decide) ?_ ?_
                · exact kw_wk (hk17 () σ13) ⟨Or.inl rfl, Or.inl rfl, Or.inl rfl, trivial⟩
                · refine kw_aload_n C d_Pieces_mayStand_181 rfl ?_
                  refine kw_getI C fi_Pieces_38 (Or.inr rfl) ht d_Pieces_mayStand_182 ?_
                  refine kw_j (α := Unit) (pcj := 197) (Lj := fun x21 => [none, none, none]) (stj := fun x21 => []) (fun x21 σ22 => ?_) (fun k20 hk20 => ?_)
                  · refine kw_iconst (v := 1) C d_Pieces_mayStand_197 (by decide) ?_
                    refine kw_goto (tgt := 202) C d_Pieces_mayStand_198 (by decide) ?_
                    exact kw_wk (hk14 1 σ22) ⟨Or.inl rfl, Or.inl rfl, Or.inl rfl, trivial⟩
                  · refine kw_if_eq (tgt := 197) C d_Pieces_mayStand_185 (by decide) ?_ ?_
                    · exact kw_wk (hk20 () σ13) ⟨Or.inl rfl, Or.inl rfl, Or.inl rfl, trivial⟩
                    · refine kw_aload_n C d_Pieces_mayStand_188 rfl ?_
                      refine kw_getI C fi_Pieces_27 (Or.inl rfl) ht d_Pieces_mayStand_189 ?_
                      refine kw_ldc (v := 1229209940) C d_Pieces_mayStand_192 k_Pieces_111 ?_
                      refine kw_icmp_ne (tgt := 201) C d_Pieces_mayStand_194 (by decide) ?_ ?_
                      · exact kw_wk (hk17 () σ13) ⟨Or.inl rfl, Or.inl rfl, Or.inl rfl, trivial⟩
                      · exact kw_wk (hk20 () σ13) ⟨Or.inl rfl, Or.inl rfl, Or.inl rfl, trivial⟩
          refine kw_sw ?_ (fun hn24 => ?_)
          · refine kw_lsw (off := 146) (tgt := 203) C d_Pieces_mayStand_57 (by decide) (by decide) (by decide) ?_
            refine kw_aload_n C d_Pieces_mayStand_203 rfl ?_
            refine kw_getI C fi_Pieces_38 (Or.inr rfl) ht d_Pieces_mayStand_204 ?_
            exact kw_zret C Ce rfl (by simp) (fun _ _ => rfl) (Nat.le_of_ble_eq_true rfl) (Nat.le_of_ble_eq_true rfl) rfl d_Pieces_mayStand_207
          refine kw_sw ?_ (fun hn34 => ?_)
          · refine kw_lsw (off := 43) (tgt := 100) C d_Pieces_mayStand_57 (by decide) (by decide) (by decide) ?_
            refine kw_aload_n C d_Pieces_mayStand_100 rfl ?_
            refine kw_getR C fi_Pieces_23 rfl rfl ht d_Pieces_mayStand_101 (fun o25 ho25 => ?_)
            refine kw_getI C fi_Pieces_100 (Or.inl rfl) ho25 d_Pieces_mayStand_104 ?_
            refine kw_callSi (cl' := 0) (sl' := 0) (As := [.int (gS σ13 (64 * o25 + 2))]) C (c_Picture_mayHaveColours hl n ids  (gS σ13 (64 * o25 + 2)) σ13) mi_Pieces_105 s_Picture_mayHaveColours ⟨Nat.le_of_ble_eq_true rfl, Nat.le_of_ble_eq_true rfl⟩ (Nat.le_of_ble_eq_true rfl) ⟨Nat.le_of_ble_eq_true rfl, Nat.le_of_ble_eq_true rfl⟩ ⟨rfl, rfl⟩ rfl d_Pieces_mayStand_107 (fun x26 σ27 => ?_)
            refine kw_j (α := Int32) (pcj := 139) (Lj := fun x29 => [none, none, none]) (stj := fun x29 => [.int x29]) (fun x29 σ30 => ?_) (fun k28 hk28 => ?_)
            · exact kw_zret C Ce rfl (by simp) (fun _ _ => rfl) (Nat.le_of_ble_eq_true rfl) (Nat.le_of_ble_eq_true rfl) rfl d_Pieces_mayStand_139
            · refine kw_j (α := Unit) (pcj := 138) (Lj := fun x32 => [none, none, none]) (stj := fun x32 => []) (fun x32 σ33 => ?_) (fun k31 hk31 => ?_)
              · refine kw_iconst (v := 0) C d_Pieces_mayStand_138 (by decide) ?_
                exact kw_wk (hk28 0 σ33) ⟨Or.inl rfl, Or.inl rfl, Or.inl rfl, trivial⟩
              · refine kw_if_eq (tgt := 138) C d_Pieces_mayStand_110 (by decide) ?_ ?_
                · exact kw_wk (hk31 () σ27) ⟨Or.inl rfl, Or.inl rfl, Or.inl rfl, trivial⟩
                · refine kw_aload_n C d_Pieces_mayStand_113 rfl ?_
                  refine kw_getI C fi_Pieces_31 (Or.inr rfl) ht d_Pieces_mayStand_114 ?_
                  refine kw_if_ne (tgt := 138) C d_Pieces_mayStand_117 (by decide) ?_ ?_
                  · exact kw_wk (hk31 () σ27) ⟨Or.inl rfl, Or.inl rfl, Or.inl rfl, trivial⟩
                  · refine kw_aload_n C d_Pieces_mayStand_120 rfl ?_
                    refine kw_getI C fi_Pieces_35 (Or.inr rfl) ht d_Pieces_mayStand_121 ?_
                    refine kw_if_ne (tgt := 138) C d_Pieces_mayStand_124 (by decide) ?_ ?_
                    · exact kw_wk (hk31 () σ27) ⟨Or.inl rfl, Or.inl rfl, Or.inl rfl, trivial⟩
                    · refine kw_aload_n C d_Pieces_mayStand_127 rfl ?_
                      refine kw_getI C fi_Pieces_38 (Or.inr rfl) ht d_Pieces_mayStand_128 ?_
                      refine kw_if_ne (tgt := 138) C d_Pieces_mayStand_131 (by decide) ?_ ?_
                      · exact kw_wk (hk31 () σ27) ⟨Or.inl rfl, Or.inl rfl, Or.inl rfl, trivial⟩
                      · refine kw_iconst (v := 1) C d_Pieces_mayStand_134 (by decide) ?_
                        refine kw_goto (tgt := 139) C d_Pieces_mayStand_135 (by decide) ?_
                        exact kw_wk (hk28 1 σ27) ⟨Or.inl rfl, Or.inl rfl, Or.inl rfl, trivial⟩
          refine kw_sw ?_ (fun hn44 => ?_)
          · refine kw_lsw (off := 83) (tgt := 140) C d_Pieces_mayStand_57 (by decide) (by decide) (by decide) ?_
            refine kw_aload_n C d_Pieces_mayStand_140 rfl ?_
            refine kw_getR C fi_Pieces_23 rfl rfl ht d_Pieces_mayStand_141 (fun o35 ho35 => ?_)
            refine kw_getI C fi_Pieces_100 (Or.inl rfl) ho35 d_Pieces_mayStand_144 ?_
            refine kw_callSi (cl' := 0) (sl' := 0) (As := [.int (gS σ13 (64 * o35 + 2))]) C (c_Picture_mayHaveThins hl n ids  (gS σ13 (64 * o35 + 2)) σ13) mi_Pieces_108 s_Picture_mayHaveThins ⟨Nat.le_of_ble_eq_true rfl, Nat.le_of_ble_eq_true rfl⟩ (Nat.le_of_ble_eq_true rfl) ⟨Nat.le_of_ble_eq_true rfl, Nat.le_of_ble_eq_true rfl⟩ ⟨rfl, rfl⟩ rfl d_Pieces_mayStand_147 (fun x36 σ37 => ?_)
            refine kw_j (α := Int32) (pcj := 176) (Lj := fun x39 => [none, none, none]) (stj := fun x39 => [.int x39]) (fun x39 σ40 => ?_) (fun k38 hk38 => ?_)
            · exact kw_zret C Ce rfl (by simp) (fun _ _ => rfl) (Nat.le_of_ble_eq_true rfl) (Nat.le_of_ble_eq_true rfl) rfl d_Pieces_mayStand_176
            · refine kw_j (α := Unit) (pcj := 175) (Lj := fun x42 => [none, none, none]) (stj := fun x42 => []) (fun x42 σ43 => ?_) (fun k41 hk41 => ?_)
              · refine kw_iconst (v := 0) C d_Pieces_mayStand_175 (by decide) ?_
                exact kw_wk (hk38 0 σ43) ⟨Or.inl rfl, Or.inl rfl, Or.inl rfl, trivial⟩
              · refine kw_if_eq (tgt := 175) C d_Pieces_mayStand_150 (by decide) ?_ ?_
                · exact kw_wk (hk41 () σ37) ⟨Or.inl rfl, Or.inl rfl, Or.inl rfl, trivial⟩
                · refine kw_iload_n C d_Pieces_mayStand_153 rfl ?_
                  refine kw_if_ne (tgt := 175) C d_Pieces_mayStand_154 (by decide) ?_ ?_
                  · exact kw_wk (hk41 () σ37) ⟨Or.inl rfl, Or.inl rfl, Or.inl rfl, trivial⟩
                  · refine kw_aload_n C d_Pieces_mayStand_157 rfl ?_
                    refine kw_getI C fi_Pieces_35 (Or.inr rfl) ht d_Pieces_mayStand_158 ?_
                    refine kw_if_ne (tgt := 175) C d_Pieces_mayStand_161 (by decide) ?_ ?_
                    · exact kw_wk (hk41 () σ37) ⟨Or.inl rfl, Or.inl rfl, Or.inl rfl, trivial⟩
                    · refine kw_aload_n C d_Pieces_mayStand_164 rfl ?_
                      refine kw_getI C fi_Pieces_38 (Or.inr rfl) ht d_Pieces_mayStand_165 ?_
                      refine kw_if_ne (tgt := 175) C d_Pieces_mayStand_168 (by decide) ?_ ?_
                      · exact kw_wk (hk41 () σ37) ⟨Or.inl rfl, Or.inl rfl, Or.inl rfl, trivial⟩
                      · refine kw_iconst (v := 1) C d_Pieces_mayStand_171 (by decide) ?_
                        refine kw_goto (tgt := 176) C d_Pieces_mayStand_172 (by decide) ?_
                        exact kw_wk (hk38 1 σ37) ⟨Or.inl rfl, Or.inl rfl, Or.inl rfl, trivial⟩
          · refine kw_lsw (off := 151) (tgt := 208) C d_Pieces_mayStand_57 (by decide) (by rw [lv_osw hn23 (by decide)]; rw [lv_osw hn24 (by decide)]; rw [lv_osw hn34 (by decide)]; rw [lv_osw hn44 (by decide)]; rfl) (by decide) ?_
            refine kw_iconst (v := 1) C d_Pieces_mayStand_208 (by decide) ?_
            exact kw_zret C Ce rfl (by simp) (fun _ _ => rfl) (Nat.le_of_ble_eq_true rfl) (Nat.le_of_ble_eq_true rfl) rfl d_Pieces_mayStand_209
        · refine kw_j (α := Unit) (pcj := 54) (Lj := fun x46 => [some (.ref t), some (.int a0), none]) (stj := fun x46 => []) (fun x46 σ47 => ?_) (fun k45 hk45 => ?_)
          · refine kw_iconst (v := 0) C d_Pieces_mayStand_54 (by decide) ?_
            exact kw_wk (hk11 0 σ47) ⟨Or.inr rfl, Or.inr rfl, Or.inl rfl, trivial⟩
          · refine kw_icmp_ne (tgt := 54) C d_Pieces_mayStand_40 (by decide) ?_ ?_
            · exact kw_wk (hk45 () σ) ⟨Or.inr rfl, Or.inr rfl, Or.inl rfl, trivial⟩
            · refine kw_aload_n C d_Pieces_mayStand_43 rfl ?_
              refine kw_getI C fi_Pieces_31 (Or.inr rfl) ht d_Pieces_mayStand_44 ?_
              refine kw_if_ne (tgt := 54) C d_Pieces_mayStand_47 (by decide) ?_ ?_
              · exact kw_wk (hk45 () σ) ⟨Or.inr rfl, Or.inr rfl, Or.inl rfl, trivial⟩
              · refine kw_iconst (v := 1) C d_Pieces_mayStand_50 (by decide) ?_
                refine kw_goto (tgt := 55) C d_Pieces_mayStand_51 (by decide) ?_
                exact kw_wk (hk11 1 σ) ⟨Or.inr rfl, Or.inr rfl, Or.inl rfl, trivial⟩
      · exact kw_wk (hk1 () σ) ⟨Or.inr rfl, Or.inr rfl, Or.inl rfl, trivial⟩
/-! Picture_isSize -/
def rm_Picture_isSize : Room := { frames := 0, cells := 0, slots := 0, locals := 0 }
def F_Picture_isSize (n : Nat) (a0 : Int32) (σ : Mm) : Option (Int32 × Mm) :=
kf_j (α := Int32) (fun x2 σ3 =>
kf_z x2 (some (x2, σ3))) fun k1 =>
kf_j (α := Unit) (fun x5 σ6 =>
k1 0 σ6) fun k4 =>
if a0 < 1 then (
k4 () σ) else (
if 64 < a0 then (
k4 () σ) else (
k1 1 σ))
theorem d_Picture_isSize_0 : decode prog_7_method_2_code 0 = .ok (.iload_n 0, 1) := by decide +kernel
theorem d_Picture_isSize_1 : decode prog_7_method_2_code 1 = .ok (.iconst 1, 1) := by decide +kernel
theorem d_Picture_isSize_2 : decode prog_7_method_2_code 2 = .ok (.if_icmp .lt 13, 3) := by decide +kernel
theorem d_Picture_isSize_5 : decode prog_7_method_2_code 5 = .ok (.iload_n 0, 1) := by decide +kernel
theorem d_Picture_isSize_6 : decode prog_7_method_2_code 6 = .ok (.bipush 64, 2) := by decide +kernel
theorem d_Picture_isSize_8 : decode prog_7_method_2_code 8 = .ok (.if_icmp .gt 7, 3) := by decide +kernel
theorem d_Picture_isSize_11 : decode prog_7_method_2_code 11 = .ok (.iconst 1, 1) := by decide +kernel
theorem d_Picture_isSize_12 : decode prog_7_method_2_code 12 = .ok (.goto 4, 3) := by decide +kernel
theorem d_Picture_isSize_15 : decode prog_7_method_2_code 15 = .ok (.iconst 0, 1) := by decide +kernel
theorem d_Picture_isSize_16 : decode prog_7_method_2_code 16 = .ok (.ireturn, 1) := by decide +kernel
set_option maxRecDepth 100000 in
set_option maxHeartbeats 4000000 in
theorem c_Picture_isSize {l0 : Launch} (hl : l0.stackTraces = false) (n : Nat) (ids : List Nat)  (a0 : Int32) (σ : Mm) : kw_C l0 y_Picture_isSize (Cond.code y_Picture_isSize prog_7_method_2_code 1 (some .boolean) :: kw_Ts) rm_Picture_isSize kw_oi ids [] [.int a0] σ (F_Picture_isSize n a0 σ) := by
  refine kw_start (L0 := [some (.int a0)]) hl (by decide +kernel) (Nat.le_of_ble_eq_true rfl) rfl (fun Γ ad C Ce => ?_)
  unfold F_Picture_isSize
  refine kw_iload_n C d_Picture_isSize_0 rfl ?_
  refine kw_iconst (v := 1) C d_Picture_isSize_1 (by decide) ?_
  refine kw_j (α := Int32) (pcj := 16) (Lj := fun x2 => [none]) (stj := fun x2 => [.int x2]) (fun x2 σ3 => ?_) (fun k1 hk1 => ?_)
  · exact kw_zret C Ce rfl (by simp) (fun _ _ => rfl) (Nat.le_of_ble_eq_true rfl) (Nat.le_of_ble_eq_true rfl) rfl d_Picture_isSize_16
  · refine kw_j (α := Unit) (pcj := 15) (Lj := fun x5 => [none]) (stj := fun x5 => []) (fun x5 σ6 => ?_) (fun k4 hk4 => ?_)
    · refine kw_iconst (v := 0) C d_Picture_isSize_15 (by decide) ?_
      exact kw_wk (hk1 0 σ6) ⟨Or.inl rfl, trivial⟩
    · refine kw_icmp_lt (tgt := 15) C d_Picture_isSize_2 (by decide) ?_ ?_
      · exact kw_wk (hk4 () σ) ⟨Or.inl rfl, trivial⟩
      · refine kw_iload_n C d_Picture_isSize_5 rfl ?_
        refine kw_bipush (v := 64) C d_Picture_isSize_6 (by decide) ?_
        refine kw_icmp_gt (tgt := 15) C d_Picture_isSize_8 (by decide) ?_ ?_
        · exact kw_wk (hk4 () σ) ⟨Or.inl rfl, trivial⟩
        · refine kw_iconst (v := 1) C d_Picture_isSize_11 (by decide) ?_
          refine kw_goto (tgt := 16) C d_Picture_isSize_12 (by decide) ?_
          exact kw_wk (hk1 1 σ) ⟨Or.inl rfl, trivial⟩
/-! Picture_isDepth -/
def rm_Picture_isDepth : Room := { frames := 0, cells := 0, slots := 0, locals := 0 }
def F_Picture_isDepth (n : Nat) (a0 : Int32) (σ : Mm) : Option (Int32 × Mm) :=
kf_j (α := Int32) (fun x2 σ3 =>
kf_z x2 (some (x2, σ3))) fun k1 =>
kf_j (α := Unit) (fun x5 σ6 =>
k1 1 σ6) fun k4 =>
if a0 = 1 then (
k4 () σ) else (
if a0 = 2 then (
k4 () σ) else (
if a0 = 4 then (
k4 () σ) else (
if a0 = 8 then (
k4 () σ) else (
if a0 = 16 then (
k4 () σ) else (
k1 0 σ)))))
theorem d_Picture_isDepth_0 : decode prog_7_method_3_code 0 = .ok (.iload_n 0, 1) := by decide +kernel
theorem d_Picture_isDepth_1 : decode prog_7_method_3_code 1 = .ok (.iconst 1, 1) := by decide +kernel
theorem d_Picture_isDepth_2 : decode prog_7_method_3_code 2 = .ok (.if_icmp .eq 25, 3) := by decide +kernel
theorem d_Picture_isDepth_5 : decode prog_7_method_3_code 5 = .ok (.iload_n 0, 1) := by decide +kernel
theorem d_Picture_isDepth_6 : decode prog_7_method_3_code 6 = .ok (.iconst 2, 1) := by decide +kernel
theorem d_Picture_isDepth_7 : decode prog_7_method_3_code 7 = .ok (.if_icmp .eq 20, 3) := by decide +kernel
theorem d_Picture_isDepth_10 : decode prog_7_method_3_code 10 = .ok (.iload_n 0, 1) := by decide +kernel
theorem d_Picture_isDepth_11 : decode prog_7_method_3_code 11 = .ok (.iconst 4, 1) := by decide +kernel
theorem d_Picture_isDepth_12 : decode prog_7_method_3_code 12 = .ok (.if_icmp .eq 15, 3) := by decide +kernel
theorem d_Picture_isDepth_15 : decode prog_7_method_3_code 15 = .ok (.iload_n 0, 1) := by decide +kernel
theorem d_Picture_isDepth_16 : decode prog_7_method_3_code 16 = .ok (.bipush 8, 2) := by decide +kernel
theorem d_Picture_isDepth_18 : decode prog_7_method_3_code 18 = .ok (.if_icmp .eq 9, 3) := by decide +kernel
theorem d_Picture_isDepth_21 : decode prog_7_method_3_code 21 = .ok (.iload_n 0, 1) := by decide +kernel
theorem d_Picture_isDepth_22 : decode prog_7_method_3_code 22 = .ok (.bipush 16, 2) := by decide +kernel
theorem d_Picture_isDepth_24 : decode prog_7_method_3_code 24 = .ok (.if_icmp .ne 7, 3) := by decide +kernel
theorem d_Picture_isDepth_27 : decode prog_7_method_3_code 27 = .ok (.iconst 1, 1) := by decide +kernel
theorem d_Picture_isDepth_28 : decode prog_7_method_3_code 28 = .ok (.goto 4, 3) := by decide +kernel
theorem d_Picture_isDepth_31 : decode prog_7_method_3_code 31 = .ok (.iconst 0, 1) := by decide +kernel
theorem d_Picture_isDepth_32 : decode prog_7_method_3_code 32 = .ok (.ireturn, 1) := by decide +kernel
set_option maxRecDepth 100000 in
set_option maxHeartbeats 4000000 in
theorem c_Picture_isDepth {l0 : Launch} (hl : l0.stackTraces = false) (n : Nat) (ids : List Nat)  (a0 : Int32) (σ : Mm) : kw_C l0 y_Picture_isDepth (Cond.code y_Picture_isDepth prog_7_method_3_code 1 (some .boolean) :: kw_Ts) rm_Picture_isDepth kw_oi ids [] [.int a0] σ (F_Picture_isDepth n a0 σ) := by
  refine kw_start (L0 := [some (.int a0)]) hl (by decide +kernel) (Nat.le_of_ble_eq_true rfl) rfl (fun Γ ad C Ce => ?_)
  unfold F_Picture_isDepth
  refine kw_iload_n C d_Picture_isDepth_0 rfl ?_
  refine kw_iconst (v := 1) C d_Picture_isDepth_1 (by decide) ?_
  refine kw_j (α := Int32) (pcj := 32) (Lj := fun x2 => [none]) (stj := fun x2 => [.int x2]) (fun x2 σ3 => ?_) (fun k1 hk1 => ?_)
  · exact kw_zret C Ce rfl (by simp) (fun _ _ => rfl) (Nat.le_of_ble_eq_true rfl) (Nat.le_of_ble_eq_true rfl) rfl d_Picture_isDepth_32
  · refine kw_j (α := Unit) (pcj := 27) (Lj := fun x5 => [none]) (stj := fun x5 => []) (fun x5 σ6 => ?_) (fun k4 hk4 => ?_)
    · refine kw_iconst (v := 1) C d_Picture_isDepth_27 (by decide) ?_
      refine kw_goto (tgt := 32) C d_Picture_isDepth_28 (by decide) ?_
      exact kw_wk (hk1 1 σ6) ⟨Or.inl rfl, trivial⟩
    · refine kw_icmp_eq (tgt := 27) C d_Picture_isDepth_2 (by decide) ?_ ?_
      · exact kw_wk (hk4 () σ) ⟨Or.inl rfl, trivial⟩
      · refine kw_iload_n C d_Picture_isDepth_5 rfl ?_
        refine kw_iconst (v := 2) C d_Picture_isDepth_6 (by decide) ?_
        refine kw_icmp_eq (tgt := 27) C d_Picture_isDepth_7 (by decide) ?_ ?_
        · exact kw_wk (hk4 () σ) ⟨Or.inl rfl, trivial⟩
        · refine kw_iload_n C d_Picture_isDepth_10 rfl ?_
          refine kw_iconst (v := 4) C d_Picture_isDepth_11 (by decide) ?_
          refine kw_icmp_eq (tgt := 27) C d_Picture_isDepth_12 (by decide) ?_ ?_
          · exact kw_wk (hk4 () σ) ⟨Or.inl rfl, trivial⟩
          · refine kw_iload_n C d_Picture_isDepth_15 rfl ?_
            refine kw_bipush (v := 8) C d_Picture_isDepth_16 (by decide) ?_
            refine kw_icmp_eq (tgt := 27) C d_Picture_isDepth_18 (by decide) ?_ ?_
            · exact kw_wk (hk4 () σ) ⟨Or.inl rfl, trivial⟩
            · refine kw_iload_n C d_Picture_isDepth_21 rfl ?_
              refine kw_bipush (v := 16) C d_Picture_isDepth_22 (by decide) ?_
              refine kw_icmp_ne (tgt := 31) C d_Picture_isDepth_24 (by decide) ?_ ?_
              · refine kw_iconst (v := 0) C d_Picture_isDepth_31 (by decide) ?_
                exact kw_wk (hk1 0 σ) ⟨Or.inl rfl, trivial⟩
              · exact kw_wk (hk4 () σ) ⟨Or.inl rfl, trivial⟩
/-! Picture_kindHas -/
def rm_Picture_kindHas : Room := { frames := 1, cells := 0, slots := 0, locals := 20 }
def F_Picture_kindHas (n : Nat) (a0 : Int32) (a1 : Int32) (σ : Mm) : Option (Int32 × Mm) :=
if a0 = 0 then (
kf_c2 (F_Picture_isDepth n a1 σ) fun x1 σ2 =>
kf_z x1 (some (x1, σ2))) else (
if a0 = 1 then (
kf_z 0 (some (0, σ))) else (
if a0 = 2 then (
kf_j (α := Int32) (fun x6 σ7 =>
kf_z x6 (some (x6, σ7))) fun k5 =>
kf_j (α := Unit) (fun x9 σ10 =>
k5 1 σ10) fun k8 =>
if a1 = 8 then (
k8 () σ) else (
if a1 = 16 then (
k8 () σ) else (
k5 0 σ))) else (
if a0 = 3 then (
kf_c2 (F_Picture_isDepth n a1 σ) fun x12 σ13 =>
kf_j (α := Int32) (fun x15 σ16 =>
kf_z x15 (some (x15, σ16))) fun k14 =>
kf_j (α := Unit) (fun x18 σ19 =>
k14 0 σ19) fun k17 =>
if x12 = 0 then (
k17 () σ13) else (
if 8 < a1 then (
k17 () σ13) else (
k14 1 σ13))) else (
if a0 = 4 then (
kf_j (α := Int32) (fun x22 σ23 =>
kf_z x22 (some (x22, σ23))) fun k21 =>
kf_j (α := Unit) (fun x25 σ26 =>
k21 1 σ26) fun k24 =>
if a1 = 8 then (
k24 () σ) else (
if a1 = 16 then (
k24 () σ) else (
k21 0 σ))) else (
if a0 = 5 then (
kf_z 0 (some (0, σ))) else (
if a0 = 6 then (
kf_j (α := Int32) (fun x30 σ31 =>
kf_z x30 (some (x30, σ31))) fun k29 =>
kf_j (α := Unit) (fun x33 σ34 =>
k29 1 σ34) fun k32 =>
if a1 = 8 then (
k32 () σ) else (
if a1 = 16 then (
k32 () σ) else (
k29 0 σ))) else (
kf_z 0 (some (0, σ)))))))))
theorem d_Picture_kindHas_0 : decode prog_7_method_4_code 0 = .ok (.iload_n 0, 1) := by decide +kernel
theorem d_Picture_kindHas_1 : decode prog_7_method_4_code 1 = .ok (.tableswitch 85 0 6 #[43, 85, 67, 48, 67, 85, 67], 43) := by decide +kernel
theorem d_Picture_kindHas_44 : decode prog_7_method_4_code 44 = .ok (.iload_n 1, 1) := by decide +kernel
theorem d_Picture_kindHas_45 : decode prog_7_method_4_code 45 = .ok (.invokestatic 26, 3) := by decide +kernel
theorem d_Picture_kindHas_48 : decode prog_7_method_4_code 48 = .ok (.ireturn, 1) := by decide +kernel
theorem d_Picture_kindHas_49 : decode prog_7_method_4_code 49 = .ok (.iload_n 1, 1) := by decide +kernel
theorem d_Picture_kindHas_50 : decode prog_7_method_4_code 50 = .ok (.invokestatic 26, 3) := by decide +kernel
theorem d_Picture_kindHas_53 : decode prog_7_method_4_code 53 = .ok (.ifCond .eq 13, 3) := by decide +kernel
theorem d_Picture_kindHas_56 : decode prog_7_method_4_code 56 = .ok (.iload_n 1, 1) := by decide +kernel
theorem d_Picture_kindHas_57 : decode prog_7_method_4_code 57 = .ok (.bipush 8, 2) := by decide +kernel
theorem d_Picture_kindHas_59 : decode prog_7_method_4_code 59 = .ok (.if_icmp .gt 7, 3) := by decide +kernel
theorem d_Picture_kindHas_62 : decode prog_7_method_4_code 62 = .ok (.iconst 1, 1) := by decide +kernel
theorem d_Picture_kindHas_63 : decode prog_7_method_4_code 63 = .ok (.goto 4, 3) := by decide +kernel
theorem d_Picture_kindHas_66 : decode prog_7_method_4_code 66 = .ok (.iconst 0, 1) := by decide +kernel
theorem d_Picture_kindHas_67 : decode prog_7_method_4_code 67 = .ok (.ireturn, 1) := by decide +kernel
theorem d_Picture_kindHas_68 : decode prog_7_method_4_code 68 = .ok (.iload_n 1, 1) := by decide +kernel
theorem d_Picture_kindHas_69 : decode prog_7_method_4_code 69 = .ok (.bipush 8, 2) := by decide +kernel
theorem d_Picture_kindHas_71 : decode prog_7_method_4_code 71 = .ok (.if_icmp .eq 9, 3) := by decide +kernel
theorem d_Picture_kindHas_74 : decode prog_7_method_4_code 74 = .ok (.iload_n 1, 1) := by decide +kernel
theorem d_Picture_kindHas_75 : decode prog_7_method_4_code 75 = .ok (.bipush 16, 2) := by decide +kernel
theorem d_Picture_kindHas_77 : decode prog_7_method_4_code 77 = .ok (.if_icmp .ne 7, 3) := by decide +kernel
theorem d_Picture_kindHas_80 : decode prog_7_method_4_code 80 = .ok (.iconst 1, 1) := by decide +kernel
theorem d_Picture_kindHas_81 : decode prog_7_method_4_code 81 = .ok (.goto 4, 3) := by decide +kernel
theorem d_Picture_kindHas_84 : decode prog_7_method_4_code 84 = .ok (.iconst 0, 1) := by decide +kernel
theorem d_Picture_kindHas_85 : decode prog_7_method_4_code 85 = .ok (.ireturn, 1) := by decide +kernel
theorem d_Picture_kindHas_86 : decode prog_7_method_4_code 86 = .ok (.iconst 0, 1) := by decide +kernel
theorem d_Picture_kindHas_87 : decode prog_7_method_4_code 87 = .ok (.ireturn, 1) := by decide +kernel
set_option maxRecDepth 100000 in
set_option maxHeartbeats 4000000 in
theorem c_Picture_kindHas {l0 : Launch} (hl : l0.stackTraces = false) (n : Nat) (ids : List Nat)  (a0 : Int32) (a1 : Int32) (σ : Mm) : kw_C l0 y_Picture_kindHas (Cond.code y_Picture_kindHas prog_7_method_4_code 2 (some .boolean) :: kw_Ts) rm_Picture_kindHas kw_oi ids [] [.int a0, .int a1] σ (F_Picture_kindHas n a0 a1 σ) := by
  refine kw_start (L0 := [some (.int a0), some (.int a1)]) hl (by decide +kernel) (Nat.le_of_ble_eq_true rfl) rfl (fun Γ ad C Ce => ?_)
  unfold F_Picture_kindHas
  refine kw_iload_n C d_Picture_kindHas_0 rfl ?_
  refine kw_sw ?_ (fun hn3 => ?_)
  · refine kw_tsIn (off := 43) (tgt := 44) C d_Picture_kindHas_1 (by decide) (by decide) (by decide) (by decide) ?_
    refine kw_iload_n C d_Picture_kindHas_44 rfl ?_
    refine kw_callSi (cl' := 0) (sl' := 0) (As := [.int a1]) C (c_Picture_isDepth hl n ids  a1 σ) mi_Picture_26 s_Picture_isDepth ⟨Nat.le_of_ble_eq_true rfl, Nat.le_of_ble_eq_true rfl⟩ (Nat.le_of_ble_eq_true rfl) ⟨Nat.le_of_ble_eq_true rfl, Nat.le_of_ble_eq_true rfl⟩ ⟨rfl, rfl⟩ rfl d_Picture_kindHas_45 (fun x1 σ2 => ?_)
    exact kw_zret C Ce rfl (by simp) (fun _ _ => rfl) (Nat.le_of_ble_eq_true rfl) (Nat.le_of_ble_eq_true rfl) rfl d_Picture_kindHas_48
  refine kw_sw ?_ (fun hn4 => ?_)
  · refine kw_tsIn (off := 85) (tgt := 86) C d_Picture_kindHas_1 (by decide) (by decide) (by decide) (by decide) ?_
    refine kw_iconst (v := 0) C d_Picture_kindHas_86 (by decide) ?_
    exact kw_zret C Ce rfl (by simp) (fun _ _ => rfl) (Nat.le_of_ble_eq_true rfl) (Nat.le_of_ble_eq_true rfl) rfl d_Picture_kindHas_87
  refine kw_sw ?_ (fun hn11 => ?_)
  · refine kw_tsIn (off := 67) (tgt := 68) C d_Picture_kindHas_1 (by decide) (by decide) (by decide) (by decide) ?_
    refine kw_iload_n C d_Picture_kindHas_68 rfl ?_
    refine kw_bipush (v := 8) C d_Picture_kindHas_69 (by decide) ?_
    refine kw_j (α := Int32) (pcj := 85) (Lj := fun x6 => [none, none]) (stj := fun x6 => [.int x6]) (fun x6 σ7 => ?_) (fun k5 hk5 => ?_)
    · exact kw_zret C Ce rfl (by simp) (fun _ _ => rfl) (Nat.le_of_ble_eq_true rfl) (Nat.le_of_ble_eq_true rfl) rfl d_Picture_kindHas_85
    · refine kw_j (α := Unit) (pcj := 80) (Lj := fun x9 => [none, none]) (stj := fun x9 => []) (fun x9 σ10 => ?_) (fun k8 hk8 => ?_)
      · refine kw_iconst (v := 1) C d_Picture_kindHas_80 (by decide) ?_
        refine kw_goto (tgt := 85) C d_Picture_kindHas_81 (by decide) ?_
        exact kw_wk (hk5 1 σ10) ⟨Or.inl rfl, Or.inl rfl, trivial⟩
      · refine kw_icmp_eq (tgt := 80) C d_Picture_kindHas_71 (by decide) ?_ ?_
        · exact kw_wk (hk8 () σ) ⟨Or.inl rfl, Or.inl rfl, trivial⟩
        · refine kw_iload_n C d_Picture_kindHas_74 rfl ?_
          refine kw_bipush (v := 16) C d_Picture_kindHas_75 (by decide) ?_
          refine kw_icmp_ne (tgt := 84) C d_Picture_kindHas_77 (by decide) ?_ ?_
          · refine kw_iconst (v := 0) C d_Picture_kindHas_84 (by decide) ?_
            exact kw_wk (hk5 0 σ) ⟨Or.inl rfl, Or.inl rfl, trivial⟩
          · exact kw_wk (hk8 () σ) ⟨Or.inl rfl, Or.inl rfl, trivial⟩
  refine kw_sw ?_ (fun hn20 => ?_)
  · refine kw_tsIn (off := 48) (tgt := 49) C d_Picture_kindHas_1 (by decide) (by decide) (by decide) (by decide) ?_
    refine kw_iload_n C d_Picture_kindHas_49 rfl ?_
    refine kw_callSi (cl' := 0) (sl' := 0) (As := [.int a1]) C (c_Picture_isDepth hl n ids  a1 σ) mi_Picture_26 s_Picture_isDepth ⟨Nat.le_of_ble_eq_true rfl, Nat.le_of_ble_eq_true rfl⟩ (Nat.le_of_ble_eq_true rfl) ⟨Nat.le_of_ble_eq_true rfl, Nat.le_of_ble_eq_true rfl⟩ ⟨rfl, rfl⟩ rfl d_Picture_kindHas_50 (fun x12 σ13 => ?_)
    refine kw_j (α := Int32) (pcj := 67) (Lj := fun x15 => [none, none]) (stj := fun x15 => [.int x15]) (fun x15 σ16 => ?_) (fun k14 hk14 => ?_)
    · exact kw_zret C Ce rfl (by simp) (fun _ _ => rfl) (Nat.le_of_ble_eq_true rfl) (Nat.le_of_ble_eq_true rfl) rfl d_Picture_kindHas_67
    · refine kw_j (α := Unit) (pcj := 66) (Lj := fun x18 => [none, none]) (stj := fun x18 => []) (fun x18 σ19 => ?_) (fun k17 hk17 => ?_)
      · refine kw_iconst (v := 0) C d_Picture_kindHas_66 (by decide) ?_
        exact kw_wk (hk14 0 σ19) ⟨Or.inl rfl, Or.inl rfl, trivial⟩
      · refine kw_if_eq (tgt := 66) C d_Picture_kindHas_53 (by decide) ?_ ?_
        · exact kw_wk (hk17 () σ13) ⟨Or.inl rfl, Or.inl rfl, trivial⟩
        · refine kw_iload_n C d_Picture_kindHas_56 rfl ?_
          refine kw_bipush (v := 8) C d_Picture_kindHas_57 (by decide) ?_
          refine kw_icmp_gt (tgt := 66) C d_Picture_kindHas_59 (by decide) ?_ ?_
          · exact kw_wk (hk17 () σ13) ⟨Or.inl rfl, Or.inl rfl, trivial⟩
          · refine kw_iconst (v := 1) C d_Picture_kindHas_62 (by decide) ?_
            refine kw_goto (tgt := 67) C d_Picture_kindHas_63 (by decide) ?_
            exact kw_wk (hk14 1 σ13) ⟨Or.inl rfl, Or.inl rfl, trivial⟩
  refine kw_sw ?_ (fun hn27 => ?_)
  · refine kw_tsIn (off := 67) (tgt := 68) C d_Picture_kindHas_1 (by decide) (by decide) (by decide) (by decide) ?_
    refine kw_iload_n C d_Picture_kindHas_68 rfl ?_
    refine kw_bipush (v := 8) C d_Picture_kindHas_69 (by decide) ?_
    refine kw_j (α := Int32) (pcj := 85) (Lj := fun x22 => [none, none]) (stj := fun x22 => [.int x22]) (fun x22 σ23 => ?_) (fun k21 hk21 => ?_)
    · exact kw_zret C Ce rfl (by simp) (fun _ _ => rfl) (Nat.le_of_ble_eq_true rfl) (Nat.le_of_ble_eq_true rfl) rfl d_Picture_kindHas_85
    · refine kw_j (α := Unit) (pcj := 80) (Lj := fun x25 => [none, none]) (stj := fun x25 => []) (fun x25 σ26 => ?_) (fun k24 hk24 => ?_)
      · refine kw_iconst (v := 1) C d_Picture_kindHas_80 (by decide) ?_
        refine kw_goto (tgt := 85) C d_Picture_kindHas_81 (by decide) ?_
        exact kw_wk (hk21 1 σ26) ⟨Or.inl rfl, Or.inl rfl, trivial⟩
      · refine kw_icmp_eq (tgt := 80) C d_Picture_kindHas_71 (by decide) ?_ ?_
        · exact kw_wk (hk24 () σ) ⟨Or.inl rfl, Or.inl rfl, trivial⟩
        · refine kw_iload_n C d_Picture_kindHas_74 rfl ?_
          refine kw_bipush (v := 16) C d_Picture_kindHas_75 (by decide) ?_
          refine kw_icmp_ne (tgt := 84) C d_Picture_kindHas_77 (by decide) ?_ ?_
          · refine kw_iconst (v := 0) C d_Picture_kindHas_84 (by decide) ?_
            exact kw_wk (hk21 0 σ) ⟨Or.inl rfl, Or.inl rfl, trivial⟩
          · exact kw_wk (hk24 () σ) ⟨Or.inl rfl, Or.inl rfl, trivial⟩
  refine kw_sw ?_ (fun hn28 => ?_)
  · refine kw_tsIn (off := 85) (tgt := 86) C d_Picture_kindHas_1 (by decide) (by decide) (by decide) (by decide) ?_
    refine kw_iconst (v := 0) C d_Picture_kindHas_86 (by decide) ?_
    exact kw_zret C Ce rfl (by simp) (fun _ _ => rfl) (Nat.le_of_ble_eq_true rfl) (Nat.le_of_ble_eq_true rfl) rfl d_Picture_kindHas_87
  refine kw_sw ?_ (fun hn35 => ?_)
  · refine kw_tsIn (off := 67) (tgt := 68) C d_Picture_kindHas_1 (by decide) (by decide) (by decide) (by decide) ?_
    refine kw_iload_n C d_Picture_kindHas_68 rfl ?_
    refine kw_bipush (v := 8) C d_Picture_kindHas_69 (by decide) ?_
    refine kw_j (α := Int32) (pcj := 85) (Lj := fun x30 => [none, none]) (stj := fun x30 => [.int x30]) (fun x30 σ31 => ?_) (fun k29 hk29 => ?_)
    · exact kw_zret C Ce rfl (by simp) (fun _ _ => rfl) (Nat.le_of_ble_eq_true rfl) (Nat.le_of_ble_eq_true rfl) rfl d_Picture_kindHas_85
    · refine kw_j (α := Unit) (pcj := 80) (Lj := fun x33 => [none, none]) (stj := fun x33 => []) (fun x33 σ34 => ?_) (fun k32 hk32 => ?_)
      · refine kw_iconst (v := 1) C d_Picture_kindHas_80 (by decide) ?_
        refine kw_goto (tgt := 85) C d_Picture_kindHas_81 (by decide) ?_
        exact kw_wk (hk29 1 σ34) ⟨Or.inl rfl, Or.inl rfl, trivial⟩
      · refine kw_icmp_eq (tgt := 80) C d_Picture_kindHas_71 (by decide) ?_ ?_
        · exact kw_wk (hk32 () σ) ⟨Or.inl rfl, Or.inl rfl, trivial⟩
        · refine kw_iload_n C d_Picture_kindHas_74 rfl ?_
          refine kw_bipush (v := 16) C d_Picture_kindHas_75 (by decide) ?_
          refine kw_icmp_ne (tgt := 84) C d_Picture_kindHas_77 (by decide) ?_ ?_
          · refine kw_iconst (v := 0) C d_Picture_kindHas_84 (by decide) ?_
            exact kw_wk (hk29 0 σ) ⟨Or.inl rfl, Or.inl rfl, trivial⟩
          · exact kw_wk (hk32 () σ) ⟨Or.inl rfl, Or.inl rfl, trivial⟩
  · refine kw_tsOut (tgt := 86) C d_Picture_kindHas_1 (kw_tso (lo := 0) (hi := 6) a0 (fun k h1 h2 => by rcases (show k = 0 ∨ k = 1 ∨ k = 2 ∨ k = 3 ∨ k = 4 ∨ k = 5 ∨ k = 6 by omega) with rfl | rfl | rfl | rfl | rfl | rfl | rfl; exact kw_ni hn3 (by decide); exact kw_ni hn4 (by decide); exact kw_ni hn11 (by decide); exact kw_ni hn20 (by decide); exact kw_ni hn27 (by decide); exact kw_ni hn28 (by decide); exact kw_ni hn35 (by decide))) (by decide) ?_
    refine kw_iconst (v := 0) C d_Picture_kindHas_86 (by decide) ?_
    exact kw_zret C Ce rfl (by simp) (fun _ _ => rfl) (Nat.le_of_ble_eq_true rfl) (Nat.le_of_ble_eq_true rfl) rfl d_Picture_kindHas_87
