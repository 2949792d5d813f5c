theorem mi_Writer_131 : kw_mi "PictureFile$Writer" 131 y_Tape_putNumber prog_10_method_6_code 3 none 2 := ⟨(kw_m5 (i := 24) (by decide +kernel) (by decide +kernel)), w_Tape_putNumber, in_Tape, by decide +kernel, by decide +kernel, by decide +kernel⟩
theorem v_Tape_putNumber : Cond.instanceMethod y_Tape_putNumber ∈ kw_Ts ∧ Cond.selects y_Tape_putNumber.cls y_Tape_putNumber y_Tape_putNumber ∈ kw_Ts := ⟨(kw_m5 (i := 25) (by decide +kernel) (by decide +kernel)), (kw_m5 (i := 26) (by decide +kernel) (by decide +kernel))⟩
theorem mi_Writer_135 : kw_mi "PictureFile$Writer" 135 y_Tape_check prog_10_method_9_code 5 (some .int) 2 := ⟨(kw_m5 (i := 28) (by decide +kernel) (by decide +kernel)), w_Tape_check, in_Tape, by decide +kernel, by decide +kernel, by decide +kernel⟩
def y_Writer_closePiece : MethodName := ⟨"PictureFile$Writer", "closePiece", "()V"⟩
theorem w_Writer_closePiece : Cond.code y_Writer_closePiece prog_12_method_8_code 2 none ∈ kw_Ts := (kw_m5 (i := 23) (by decide +kernel) (by decide +kernel))
theorem k_Writer_100 : Cond.constant "PictureFile$Writer" 100 1229472850 ∈ kw_Ts := (kw_m5 (i := 14) (by decide +kernel) (by decide +kernel))
theorem in_Writer : Cond.initialized "PictureFile$Writer" ∈ kw_Ts := (kw_m1 (i := 10) (by decide +kernel) (by decide +kernel))
theorem mi_Writer_67 : kw_mi "PictureFile$Writer" 67 y_Writer_startPiece prog_12_method_7_code 2 none 1 := ⟨(kw_m5 (i := 15) (by decide +kernel) (by decide +kernel)), w_Writer_startPiece, in_Writer, by decide +kernel, by decide +kernel, by decide +kernel⟩
theorem v_Writer_startPiece : Cond.instanceMethod y_Writer_startPiece ∈ kw_Ts ∧ Cond.selects y_Writer_startPiece.cls y_Writer_startPiece y_Writer_startPiece ∈ kw_Ts := ⟨(kw_m5 (i := 17) (by decide +kernel) (by decide +kernel)), (kw_sel (i := 30) (by decide +kernel) (by decide +kernel))⟩
theorem fi_Writer_101 : kw_fi "PictureFile$Writer" 101 10 0 false := ⟨mmR_10, mmT_10, 12, rfl, rfl, by decide, mmI_10, mmY_10, mmN_10, rfl, (kw_m2 (i := 99) (by decide +kernel) (by decide +kernel))⟩
theorem fi_Writer_104 : kw_fi "PictureFile$Writer" 104 10 1 false := ⟨mmR_10, mmT_10, 12, rfl, rfl, by decide, mmI_10, mmY_10, mmN_10, rfl, (kw_m2 (i := 103) (by decide +kernel) (by decide +kernel))⟩
theorem fi_Writer_107 : kw_fi "PictureFile$Writer" 107 10 3 false := ⟨mmR_10, mmT_10, 12, rfl, rfl, by decide, mmI_10, mmY_10, mmN_10, rfl, (kw_m2 (i := 113) (by decide +kernel) (by decide +kernel))⟩
theorem mi_Writer_41 : kw_mi "PictureFile$Writer" 41 y_Tape_add prog_10_method_3_code 2 none 1 := ⟨(kw_m5 (i := 9) (by decide +kernel) (by decide +kernel)), w_Tape_add, in_Tape, by decide +kernel, by decide +kernel, by decide +kernel⟩
theorem fi_Writer_110 : kw_fi "PictureFile$Writer" 110 10 2 false := ⟨mmR_10, mmT_10, 12, rfl, rfl, by decide, mmI_10, mmY_10, mmN_10, rfl, (kw_m2 (i := 107) (by decide +kernel) (by decide +kernel))⟩
theorem fi_Writer_113 : kw_fi "PictureFile$Writer" 113 10 4 false := ⟨mmR_10, mmT_10, 12, rfl, rfl, by decide, mmI_10, mmY_10, mmN_10, rfl, (kw_m2 (i := 117) (by decide +kernel) (by decide +kernel))⟩
theorem mi_Writer_83 : kw_mi "PictureFile$Writer" 83 y_Writer_closePiece prog_12_method_8_code 2 none 0 := ⟨(kw_m5 (i := 20) (by decide +kernel) (by decide +kernel)), w_Writer_closePiece, in_Writer, by decide +kernel, by decide +kernel, by decide +kernel⟩
theorem v_Writer_closePiece : Cond.instanceMethod y_Writer_closePiece ∈ kw_Ts ∧ Cond.selects y_Writer_closePiece.cls y_Writer_closePiece y_Writer_closePiece ∈ kw_Ts := ⟨(kw_m5 (i := 22) (by decide +kernel) (by decide +kernel)), (kw_sel (i := 31) (by decide +kernel) (by decide +kernel))⟩
def y_Writer_addHeader : MethodName := ⟨"PictureFile$Writer", "addHeader", "(LPictureFile$Picture;)V"⟩
theorem w_Writer_addHeader : Cond.code y_Writer_addHeader prog_12_method_4_code 2 none ∈ kw_Ts := (kw_m5 (i := 13) (by decide +kernel) (by decide +kernel))
theorem k_Writer_117 : Cond.constant "PictureFile$Writer" 117 1347179589 ∈ kw_Ts := (kw_m5 (i := 33) (by decide +kernel) (by decide +kernel))
theorem fi_Writer_49 : kw_fi "PictureFile$Writer" 49 10 6 false := ⟨mmR_10, mmT_10, 12, rfl, rfl, by decide, mmI_10, mmY_10, mmN_10, rfl, (kw_m2 (i := 124) (by decide +kernel) (by decide +kernel))⟩
theorem fi_Writer_118 : kw_fi "PictureFile$Writer" 118 10 9 true := ⟨mmR_10, mmT_10, 12, rfl, rfl, by decide, mmI_10, mmY_10, mmN_10, rfl, (kw_m2 (i := 136) (by decide +kernel) (by decide +kernel))⟩
def y_Writer_addColours : MethodName := ⟨"PictureFile$Writer", "addColours", "(LPictureFile$Picture;)V"⟩
theorem w_Writer_addColours : Cond.code y_Writer_addColours prog_12_method_5_code 3 none ∈ kw_Ts := (kw_m5 (i := 32) (by decide +kernel) (by decide +kernel))
theorem k_Writer_121 : Cond.constant "PictureFile$Writer" 121 1951551059 ∈ kw_Ts := (kw_m5 (i := 38) (by decide +kernel) (by decide +kernel))
theorem fi_Writer_57 : kw_fi "PictureFile$Writer" 57 10 7 false := ⟨mmR_10, mmT_10, 12, rfl, rfl, by decide, mmI_10, mmY_10, mmN_10, rfl, (kw_m2 (i := 129) (by decide +kernel) (by decide +kernel))⟩
theorem fi_Writer_122 : kw_fi "PictureFile$Writer" 122 10 10 true := ⟨mmR_10, mmT_10, 12, rfl, rfl, by decide, mmI_10, mmY_10, mmN_10, rfl, (kw_m2 (i := 139) (by decide +kernel) (by decide +kernel))⟩
theorem mi_Writer_125 : kw_mi "PictureFile$Writer" 125 y_Tape_addPair prog_10_method_4_code 2 none 1 := ⟨(kw_m5 (i := 39) (by decide +kernel) (by decide +kernel)), w_Tape_addPair, in_Tape, by decide +kernel, by decide +kernel, by decide +kernel⟩
def y_Writer_addThins : MethodName := ⟨"PictureFile$Writer", "addThins", "(LPictureFile$Picture;)V"⟩
theorem w_Writer_addThins : Cond.code y_Writer_addThins prog_12_method_6_code 3 none ∈ kw_Ts := (kw_m5 (i := 37) (by decide +kernel) (by decide +kernel))
theorem mi_Rows_91 : kw_mi "PictureFile$Rows" 91 y_Rows_gather prog_9_method_2_code 9 none 2 := ⟨(kw_m5 (i := 44) (by decide +kernel) (by decide +kernel)), w_Rows_gather, in_Rows, by decide +kernel, by decide +kernel, by decide +kernel⟩
theorem mi_Rows_95 : kw_mi "PictureFile$Rows" 95 y_Rows_bestFilter prog_9_method_6_code 7 (some .int) 2 := ⟨(kw_m5 (i := 45) (by decide +kernel) (by decide +kernel)), w_Rows_bestFilter, in_Rows, by decide +kernel, by decide +kernel, by decide +kernel⟩
def y_Rows_filterAll : MethodName := ⟨"PictureFile$Rows", "filterAll", "(LPictureFile$Picture;)V"⟩
theorem w_Rows_filterAll : Cond.code y_Rows_filterAll prog_9_method_10_code 7 none ∈ kw_Ts := (kw_m5 (i := 43) (by decide +kernel) (by decide +kernel))
theorem fi_Packer_45 : kw_fi "PictureFile$Packer" 45 9 5 false := ⟨mmR_9, mmT_9, 9, rfl, rfl, by decide, mmI_9, mmY_9, mmN_9, rfl, (kw_m2 (i := 7) (by decide +kernel) (by decide +kernel))⟩
theorem fi_Packer_48 : kw_fi "PictureFile$Packer" 48 9 6 false := ⟨mmR_9, mmT_9, 9, rfl, rfl, by decide, mmI_9, mmY_9, mmN_9, rfl, (kw_m2 (i := 8) (by decide +kernel) (by decide +kernel))⟩
theorem fi_Packer_21 : kw_fi "PictureFile$Packer" 21 9 0 true := ⟨mmR_9, mmT_9, 9, rfl, rfl, by decide, mmI_9, mmY_9, mmN_9, rfl, (kw_m2 (i := 2) (by decide +kernel) (by decide +kernel))⟩
theorem mi_Packer_39 : kw_mi "PictureFile$Packer" 39 y_Tape_add prog_10_method_3_code 2 none 1 := ⟨(kw_m5 (i := 60) (by decide +kernel) (by decide +kernel)), w_Tape_add, in_Tape, by decide +kernel, by decide +kernel, by decide +kernel⟩
def y_Packer_addBits : MethodName := ⟨"PictureFile$Packer", "addBits", "(II)V"⟩
theorem w_Packer_addBits : Cond.code y_Packer_addBits prog_6_method_12_code 4 none ∈ kw_Ts := (kw_m5 (i := 59) (by decide +kernel) (by decide +kernel))
theorem fi_Packer_25 : kw_fi "PictureFile$Packer" 25 9 1 true := ⟨mmR_9, mmT_9, 9, rfl, rfl, by decide, mmI_9, mmY_9, mmN_9, rfl, (kw_m2 (i := 3) (by decide +kernel) (by decide +kernel))⟩
def y_Packer_hashAt : MethodName := ⟨"PictureFile$Packer", "hashAt", "(I)I"⟩
theorem w_Packer_hashAt : Cond.code y_Packer_hashAt prog_6_method_4_code 2 (some .int) ∈ kw_Ts := (kw_m5 (i := 71) (by decide +kernel) (by decide +kernel))
def y_Packer_alike : MethodName := ⟨"PictureFile$Packer", "alike", "(III)I"⟩
theorem w_Packer_alike : Cond.code y_Packer_alike prog_6_method_7_code 5 (some .int) ∈ kw_Ts := (kw_m5 (i := 77) (by decide +kernel) (by decide +kernel))
theorem fi_Packer_64 : kw_fi "PictureFile$Packer" 64 9 7 false := ⟨mmR_9, mmT_9, 9, rfl, rfl, by decide, mmI_9, mmY_9, mmN_9, rfl, (kw_m2 (i := 9) (by decide +kernel) (by decide +kernel))⟩
theorem fi_Packer_28 : kw_fi "PictureFile$Packer" 28 9 4 false := ⟨mmR_9, mmT_9, 9, rfl, rfl, by decide, mmI_9, mmY_9, mmN_9, rfl, (kw_m2 (i := 6) (by decide +kernel) (by decide +kernel))⟩
theorem ms_min : Cond.static Lib.Math.min.name ∈ kw_Ts := (kw_m5 (i := 66) (by decide +kernel) (by decide +kernel))
theorem mw_min : Cond.code Lib.Math.min.name Lib.Math.min.code 2 (some .int) ∈ kw_Ts := (kw_m5 (i := 67) (by decide +kernel) (by decide +kernel))
theorem mth_Packer_33 : Cond.methodLink "PictureFile$Packer" 33 Lib.Math.min.name ∈ kw_Ts := (kw_m5 (i := 65) (by decide +kernel) (by decide +kernel))
theorem fi_Packer_11 : kw_fi "PictureFile$Packer" 11 9 2 true := ⟨mmR_9, mmT_9, 9, rfl, rfl, by decide, mmI_9, mmY_9, mmN_9, rfl, (kw_m2 (i := 4) (by decide +kernel) (by decide +kernel))⟩
theorem in_Packer : Cond.initialized "PictureFile$Packer" ∈ kw_Ts := (kw_m1 (i := 11) (by decide +kernel) (by decide +kernel))
theorem mi_Packer_78 : kw_mi "PictureFile$Packer" 78 y_Packer_hashAt prog_6_method_4_code 2 (some .int) 1 := ⟨(kw_m5 (i := 68) (by decide +kernel) (by decide +kernel)), w_Packer_hashAt, in_Packer, by decide +kernel, by decide +kernel, by decide +kernel⟩
theorem v_Packer_hashAt : Cond.instanceMethod y_Packer_hashAt ∈ kw_Ts ∧ Cond.selects y_Packer_hashAt.cls y_Packer_hashAt y_Packer_hashAt ∈ kw_Ts := ⟨(kw_m5 (i := 70) (by decide +kernel) (by decide +kernel)), (kw_sel (i := 37) (by decide +kernel) (by decide +kernel))⟩
theorem k_Packer_82 : Cond.constant "PictureFile$Packer" 82 32768 ∈ kw_Ts := (kw_m5 (i := 72) (by decide +kernel) (by decide +kernel))
theorem mth_Packer_83 : Cond.methodLink "PictureFile$Packer" 83 Lib.Math.max.name ∈ kw_Ts := (kw_m5 (i := 73) (by decide +kernel) (by decide +kernel))
theorem fi_Packer_18 : kw_fi "PictureFile$Packer" 18 9 3 true := ⟨mmR_9, mmT_9, 9, rfl, rfl, by decide, mmI_9, mmY_9, mmN_9, rfl, (kw_m2 (i := 5) (by decide +kernel) (by decide +kernel))⟩
theorem mi_Packer_86 : kw_mi "PictureFile$Packer" 86 y_Packer_alike prog_6_method_7_code 5 (some .int) 3 := ⟨(kw_m5 (i := 74) (by decide +kernel) (by decide +kernel)), w_Packer_alike, in_Packer, by decide +kernel, by decide +kernel, by decide +kernel⟩
theorem v_Packer_alike : Cond.instanceMethod y_Packer_alike ∈ kw_Ts ∧ Cond.selects y_Packer_alike.cls y_Packer_alike y_Packer_alike ∈ kw_Ts := ⟨(kw_m5 (i := 76) (by decide +kernel) (by decide +kernel)), (kw_sel (i := 38) (by decide +kernel) (by decide +kernel))⟩
theorem fi_Packer_90 : kw_fi "PictureFile$Packer" 90 9 8 false := ⟨mmR_9, mmT_9, 9, rfl, rfl, by decide, mmI_9, mmY_9, mmN_9, rfl, (kw_m2 (i := 10) (by decide +kernel) (by decide +kernel))⟩
def y_Packer_findCopy : MethodName := ⟨"PictureFile$Packer", "findCopy", "(I)V"⟩
theorem w_Packer_findCopy : Cond.code y_Packer_findCopy prog_6_method_6_code 7 none ∈ kw_Ts := (kw_m5 (i := 64) (by decide +kernel) (by decide +kernel))
def y_Packer_lastUpTo : MethodName := ⟨"PictureFile$Packer", "lastUpTo", "([II)I"⟩
theorem w_Packer_lastUpTo : Cond.code y_Packer_lastUpTo prog_6_method_9_code 3 (some .int) ∈ kw_Ts := (kw_m5 (i := 85) (by decide +kernel) (by decide +kernel))
def y_Packer_turned : MethodName := ⟨"PictureFile$Packer", "turned", "(II)I"⟩
theorem w_Packer_turned : Cond.code y_Packer_turned prog_6_method_11_code 4 (some .int) ∈ kw_Ts := (kw_m5 (i := 92) (by decide +kernel) (by decide +kernel))
theorem mi_Packer_106 : kw_mi "PictureFile$Packer" 106 y_Packer_turned prog_6_method_11_code 4 (some .int) 2 := ⟨(kw_m5 (i := 90) (by decide +kernel) (by decide +kernel)), w_Packer_turned, in_Packer, by decide +kernel, by decide +kernel, by decide +kernel⟩
theorem s_Packer_turned : Cond.static y_Packer_turned ∈ kw_Ts := (kw_m5 (i := 91) (by decide +kernel) (by decide +kernel))
theorem mi_Packer_57 : kw_mi "PictureFile$Packer" 57 y_Packer_addBits prog_6_method_12_code 4 none 2 := ⟨(kw_m5 (i := 56) (by decide +kernel) (by decide +kernel)), w_Packer_addBits, in_Packer, by decide +kernel, by decide +kernel, by decide +kernel⟩
theorem v_Packer_addBits : Cond.instanceMethod y_Packer_addBits ∈ kw_Ts ∧ Cond.selects y_Packer_addBits.cls y_Packer_addBits y_Packer_addBits ∈ kw_Ts := ⟨(kw_m5 (i := 58) (by decide +kernel) (by decide +kernel)), (kw_sel (i := 35) (by decide +kernel) (by decide +kernel))⟩
def y_Packer_addSign : MethodName := ⟨"PictureFile$Packer", "addSign", "(I)V"⟩
theorem w_Packer_addSign : Cond.code y_Packer_addSign prog_6_method_10_code 2 none ∈ kw_Ts := (kw_m5 (i := 89) (by decide +kernel) (by decide +kernel))
theorem gs_Packer_93 : Cond.fieldLink "PictureFile$Packer" 93 "PictureFile$Codes" "COPY_LENGTH" "[I" ∈ kw_Ts := (kw_m5 (i := 82) (by decide +kernel) (by decide +kernel))
theorem mi_Packer_96 : kw_mi "PictureFile$Packer" 96 y_Packer_lastUpTo prog_6_method_9_code 3 (some .int) 2 := ⟨(kw_m5 (i := 83) (by decide +kernel) (by decide +kernel)), w_Packer_lastUpTo, in_Packer, by decide +kernel, by decide +kernel, by decide +kernel⟩
theorem s_Packer_lastUpTo : Cond.static y_Packer_lastUpTo ∈ kw_Ts := (kw_m5 (i := 84) (by decide +kernel) (by decide +kernel))
theorem mi_Packer_72 : kw_mi "PictureFile$Packer" 72 y_Packer_addSign prog_6_method_10_code 2 none 1 := ⟨(kw_m5 (i := 86) (by decide +kernel) (by decide +kernel)), w_Packer_addSign, in_Packer, by decide +kernel, by decide +kernel, by decide +kernel⟩
theorem v_Packer_addSign : Cond.instanceMethod y_Packer_addSign ∈ kw_Ts ∧ Cond.selects y_Packer_addSign.cls y_Packer_addSign y_Packer_addSign ∈ kw_Ts := ⟨(kw_m5 (i := 88) (by decide +kernel) (by decide +kernel)), (kw_sel (i := 40) (by decide +kernel) (by decide +kernel))⟩
theorem gs_Packer_100 : Cond.fieldLink "PictureFile$Packer" 100 "PictureFile$Codes" "COPY_LENGTH_BITS" "[I" ∈ kw_Ts := (kw_m5 (i := 93) (by decide +kernel) (by decide +kernel))
theorem gs_Packer_103 : Cond.fieldLink "PictureFile$Packer" 103 "PictureFile$Codes" "DISTANCE" "[I" ∈ kw_Ts := (kw_m5 (i := 94) (by decide +kernel) (by decide +kernel))
theorem gs_Packer_109 : Cond.fieldLink "PictureFile$Packer" 109 "PictureFile$Codes" "DISTANCE_BITS" "[I" ∈ kw_Ts := (kw_m5 (i := 95) (by decide +kernel) (by decide +kernel))
def y_Packer_addCopy : MethodName := ⟨"PictureFile$Packer", "addCopy", "()V"⟩
theorem w_Packer_addCopy : Cond.code y_Packer_addCopy prog_6_method_8_code 3 none ∈ kw_Ts := (kw_m5 (i := 81) (by decide +kernel) (by decide +kernel))
def y_Packer_remember : MethodName := ⟨"PictureFile$Packer", "remember", "(I)V"⟩
theorem w_Packer_remember : Cond.code y_Packer_remember prog_6_method_5_code 3 none ∈ kw_Ts := (kw_m5 (i := 99) (by decide +kernel) (by decide +kernel))
theorem mi_Packer_51 : kw_mi "PictureFile$Packer" 51 y_Arr_fill prog_23_method_103_code 4 none 2 := ⟨(kw_m5 (i := 55) (by decide +kernel) (by decide +kernel)), w_Arr_fill, in_Arr, by decide +kernel, by decide +kernel, by decide +kernel⟩
theorem mi_Packer_61 : kw_mi "PictureFile$Packer" 61 y_Packer_findCopy prog_6_method_6_code 7 none 1 := ⟨(kw_m5 (i := 61) (by decide +kernel) (by decide +kernel)), w_Packer_findCopy, in_Packer, by decide +kernel, by decide +kernel, by decide +kernel⟩
theorem v_Packer_findCopy : Cond.instanceMethod y_Packer_findCopy ∈ kw_Ts ∧ Cond.selects y_Packer_findCopy.cls y_Packer_findCopy y_Packer_findCopy ∈ kw_Ts := ⟨(kw_m5 (i := 63) (by decide +kernel) (by decide +kernel)), (kw_sel (i := 36) (by decide +kernel) (by decide +kernel))⟩
theorem mi_Packer_75 : kw_mi "PictureFile$Packer" 75 y_Packer_remember prog_6_method_5_code 3 none 1 := ⟨(kw_m5 (i := 96) (by decide +kernel) (by decide +kernel)), w_Packer_remember, in_Packer, by decide +kernel, by decide +kernel, by decide +kernel⟩
theorem v_Packer_remember : Cond.instanceMethod y_Packer_remember ∈ kw_Ts ∧ Cond.selects y_Packer_remember.cls y_Packer_remember y_Packer_remember ∈ kw_Ts := ⟨(kw_m5 (i := 98) (by decide +kernel) (by decide +kernel)), (kw_sel (i := 41) (by decide +kernel) (by decide +kernel))⟩
theorem mi_Packer_69 : kw_mi "PictureFile$Packer" 69 y_Packer_addCopy prog_6_method_8_code 3 none 0 := ⟨(kw_m5 (i := 78) (by decide +kernel) (by decide +kernel)), w_Packer_addCopy, in_Packer, by decide +kernel, by decide +kernel, by decide +kernel⟩
theorem v_Packer_addCopy : Cond.instanceMethod y_Packer_addCopy ∈ kw_Ts ∧ Cond.selects y_Packer_addCopy.cls y_Packer_addCopy y_Packer_addCopy ∈ kw_Ts := ⟨(kw_m5 (i := 80) (by decide +kernel) (by decide +kernel)), (kw_sel (i := 39) (by decide +kernel) (by decide +kernel))⟩
def y_Packer_packShort : MethodName := ⟨"PictureFile$Packer", "packShort", "(I)V"⟩
theorem w_Packer_packShort : Cond.code y_Packer_packShort prog_6_method_3_code 6 none ∈ kw_Ts := (kw_m5 (i := 54) (by decide +kernel) (by decide +kernel))
/-! Writer_closePiece -/
def rm_Writer_closePiece : Room := { frames := 3, cells := 0, slots := 0, locals := 63 }
def F_Writer_closePiece (n : Nat) (t : Nat) (σ : Mm) : Option (Mm) :=
Option.bind (gR σ (64 * t + 0)) fun o1 =>
kf_let (gS σ (64 * o1 + 1) : Int32) fun x2 =>
Option.bind (gR σ (64 * t + 0)) fun o3 =>
Option.bind (F_Tape_putNumber n o3 (gS σ (64 * t + 3)) ((x2 - (gS σ (64 * t + 3))) - 8) σ) fun σ4 =>
Option.bind (gR σ4 (64 * t + 0)) fun o5 =>
Option.bind (gR σ4 (64 * t + 0)) fun o6 =>
kf_c2 (F_Tape_check n o6 ((gS σ4 (64 * t + 3)) + 4) x2 σ4) fun x7 σ8 =>
Option.bind (F_Tape_addNumber n o5 x7 σ8) fun σ9 =>
some σ9
theorem d_Writer_closePiece_0 : decode prog_12_method_8_code 0 = .ok (.aload_n 0, 1) := by decide +kernel
theorem d_Writer_closePiece_1 : decode prog_12_method_8_code 1 = .ok (.getfield 7, 3) := by decide +kernel
theorem d_Writer_closePiece_4 : decode prog_12_method_8_code 4 = .ok (.getfield 32, 3) := by decide +kernel
theorem d_Writer_closePiece_7 : decode prog_12_method_8_code 7 = .ok (.istore_n 1, 1) := by decide +kernel
theorem d_Writer_closePiece_8 : decode prog_12_method_8_code 8 = .ok (.aload_n 0, 1) := by decide +kernel
theorem d_Writer_closePiece_9 : decode prog_12_method_8_code 9 = .ok (.getfield 7, 3) := by decide +kernel
theorem d_Writer_closePiece_12 : decode prog_12_method_8_code 12 = .ok (.aload_n 0, 1) := by decide +kernel
theorem d_Writer_closePiece_13 : decode prog_12_method_8_code 13 = .ok (.getfield 128, 3) := by decide +kernel
theorem d_Writer_closePiece_16 : decode prog_12_method_8_code 16 = .ok (.iload_n 1, 1) := by decide +kernel
theorem d_Writer_closePiece_17 : decode prog_12_method_8_code 17 = .ok (.aload_n 0, 1) := by decide +kernel
theorem d_Writer_closePiece_18 : decode prog_12_method_8_code 18 = .ok (.getfield 128, 3) := by decide +kernel
theorem d_Writer_closePiece_21 : decode prog_12_method_8_code 21 = .ok (.isub, 1) := by decide +kernel
theorem d_Writer_closePiece_22 : decode prog_12_method_8_code 22 = .ok (.bipush 8, 2) := by decide +kernel
theorem d_Writer_closePiece_24 : decode prog_12_method_8_code 24 = .ok (.isub, 1) := by decide +kernel
theorem d_Writer_closePiece_25 : decode prog_12_method_8_code 25 = .ok (.invokevirtual 131, 3) := by decide +kernel
theorem d_Writer_closePiece_28 : decode prog_12_method_8_code 28 = .ok (.aload_n 0, 1) := by decide +kernel
theorem d_Writer_closePiece_29 : decode prog_12_method_8_code 29 = .ok (.getfield 7, 3) := by decide +kernel
theorem d_Writer_closePiece_32 : decode prog_12_method_8_code 32 = .ok (.aload_n 0, 1) := by decide +kernel
theorem d_Writer_closePiece_33 : decode prog_12_method_8_code 33 = .ok (.getfield 7, 3) := by decide +kernel
theorem d_Writer_closePiece_36 : decode prog_12_method_8_code 36 = .ok (.aload_n 0, 1) := by decide +kernel
theorem d_Writer_closePiece_37 : decode prog_12_method_8_code 37 = .ok (.getfield 128, 3) := by decide +kernel
theorem d_Writer_closePiece_40 : decode prog_12_method_8_code 40 = .ok (.iconst 4, 1) := by decide +kernel
theorem d_Writer_closePiece_41 : decode prog_12_method_8_code 41 = .ok (.iadd, 1) := by decide +kernel
theorem d_Writer_closePiece_42 : decode prog_12_method_8_code 42 = .ok (.iload_n 1, 1) := by decide +kernel
theorem d_Writer_closePiece_43 : decode prog_12_method_8_code 43 = .ok (.invokevirtual 135, 3) := by decide +kernel
theorem d_Writer_closePiece_46 : decode prog_12_method_8_code 46 = .ok (.invokevirtual 97, 3) := by decide +kernel
theorem d_Writer_closePiece_49 : decode prog_12_method_8_code 49 = .ok (.return_, 1) := by decide +kernel
set_option maxRecDepth 100000 in
set_option maxHeartbeats 4000000 in
theorem c_Writer_closePiece {l0 : Launch} (hl : l0.stackTraces = false) (n : Nat) (ids : List Nat) {t : Nat} (ht : mm_ok ids t 1 8)  (σ : Mm) : kw_C l0 y_Writer_closePiece (Cond.code y_Writer_closePiece prog_12_method_8_code 2 none :: kw_Ts) rm_Writer_closePiece kw_ov ids [] [.ref t] σ (F_Writer_closePiece n t σ) := by
  refine kw_start (L0 := [some (.ref t), none]) hl (by decide +kernel) (Nat.le_of_ble_eq_true rfl) rfl (fun Γ ad C Ce => ?_)
  unfold F_Writer_closePiece
  refine kw_aload_n C d_Writer_closePiece_0 rfl ?_
  refine kw_getR C fi_Writer_7 rfl rfl ht d_Writer_closePiece_1 (fun o1 ho1 => ?_)
  refine kw_getI C fi_Writer_32 (Or.inl rfl) ho1 d_Writer_closePiece_4 ?_
  refine kw_leti (fun x2 => ?_)
  refine kw_istore_n (L' := [some (.ref t), some (.int x2)]) C d_Writer_closePiece_7 (by decide) rfl ?_
  refine kw_aload_n C d_Writer_closePiece_8 rfl ?_
  refine kw_getR C fi_Writer_7 rfl rfl ht d_Writer_closePiece_9 (fun o3 ho3 => ?_)
  refine kw_aload_n C d_Writer_closePiece_12 rfl ?_
  refine kw_getI C fi_Writer_128 (Or.inl rfl) ht d_Writer_closePiece_13 ?_
  refine kw_iload_n C d_Writer_closePiece_16 rfl ?_
  refine kw_aload_n C d_Writer_closePiece_17 rfl ?_
  refine kw_getI C fi_Writer_128 (Or.inl rfl) ht d_Writer_closePiece_18 ?_
  refine kw_isub C d_Writer_closePiece_21 ?_
  refine kw_bipush (v := 8) C d_Writer_closePiece_22 (by decide) ?_
  refine kw_isub C d_Writer_closePiece_24 ?_
  refine kw_callVv (cl' := 0) (sl' := 0) (As := [.int (gS σ (64 * t + 3)), .int ((x2 - (gS σ (64 * t + 3))) - 8)]) C (c_Tape_putNumber hl n ids ho3 (gS σ (64 * t + 3)) ((x2 - (gS σ (64 * t + 3))) - 8) σ) mi_Writer_131 v_Tape_putNumber ⟨_, _, rfl⟩ ho3 ⟨Nat.le_of_ble_eq_true rfl, Nat.le_of_ble_eq_true rfl⟩ (Nat.le_of_ble_eq_true rfl) ⟨Nat.le_of_ble_eq_true rfl, Nat.le_of_ble_eq_true rfl⟩ ⟨rfl, rfl⟩ rfl d_Writer_closePiece_25 (fun σ4 => ?_)
  refine kw_aload_n C d_Writer_closePiece_28 rfl ?_
  refine kw_getR C fi_Writer_7 rfl rfl ht d_Writer_closePiece_29 (fun o5 ho5 => ?_)
  refine kw_aload_n C d_Writer_closePiece_32 rfl ?_
  refine kw_getR C fi_Writer_7 rfl rfl ht d_Writer_closePiece_33 (fun o6 ho6 => ?_)
  refine kw_aload_n C d_Writer_closePiece_36 rfl ?_
  refine kw_getI C fi_Writer_128 (Or.inl rfl) ht d_Writer_closePiece_37 ?_
  refine kw_iconst (v := 4) C d_Writer_closePiece_40 (by decide) ?_
  refine kw_iadd C d_Writer_closePiece_41 ?_
  refine kw_iload_n C d_Writer_closePiece_42 rfl ?_
  refine kw_callVi (cl' := 0) (sl' := 0) (As := [.int ((gS σ4 (64 * t + 3)) + 4), .int x2]) C (c_Tape_check hl n ids ho6 ((gS σ4 (64 * t + 3)) + 4) x2 σ4) mi_Writer_135 v_Tape_check ⟨_, _, rfl⟩ ho6 ⟨Nat.le_of_ble_eq_true rfl, Nat.le_of_ble_eq_true rfl⟩ (Nat.le_of_ble_eq_true rfl) ⟨Nat.le_of_ble_eq_true rfl, Nat.le_of_ble_eq_true rfl⟩ ⟨rfl, rfl⟩ rfl d_Writer_closePiece_43 (fun x7 σ8 => ?_)
  refine kw_callVv (cl' := 0) (sl' := 0) (As := [.int x7]) C (c_Tape_addNumber hl n ids ho5 x7 σ8) mi_Writer_97 v_Tape_addNumber ⟨_, _, rfl⟩ ho5 ⟨Nat.le_of_ble_eq_true rfl, Nat.le_of_ble_eq_true rfl⟩ (Nat.le_of_ble_eq_true rfl) ⟨Nat.le_of_ble_eq_true rfl, Nat.le_of_ble_eq_true rfl⟩ ⟨rfl, rfl⟩ rfl d_Writer_closePiece_46 (fun σ9 => ?_)
  exact kw_vret C Ce rfl (by simp) (fun _ _ => rfl) (Nat.le_of_ble_eq_true rfl) (Nat.le_of_ble_eq_true rfl) rfl d_Writer_closePiece_49
/-! Writer_addHeader -/
def rm_Writer_addHeader : Room := { frames := 4, cells := 0, slots := 0, locals := 84 }
def F_Writer_addHeader (n : Nat) (t : Nat) (r0 : Nat) (σ : Mm) : Option (Mm) :=
Option.bind (F_Writer_startPiece n t 1229472850 σ) fun σ1 =>
Option.bind (gR σ1 (64 * t + 0)) fun o2 =>
Option.bind (F_Tape_addNumber n o2 (gS σ1 (64 * r0 + 0)) σ1) fun σ3 =>
Option.bind (gR σ3 (64 * t + 0)) fun o4 =>
Option.bind (F_Tape_addNumber n o4 (gS σ3 (64 * r0 + 1)) σ3) fun σ5 =>
Option.bind (gR σ5 (64 * t + 0)) fun o6 =>
Option.bind (F_Tape_add n o6 (gS σ5 (64 * r0 + 3)) σ5) fun σ7 =>
Option.bind (gR σ7 (64 * t + 0)) fun o8 =>
Option.bind (F_Tape_add n o8 (gS σ7 (64 * r0 + 2)) σ7) fun σ9 =>
Option.bind (gR σ9 (64 * t + 0)) fun o10 =>
Option.bind (F_Tape_add n o10 0 σ9) fun σ11 =>
Option.bind (gR σ11 (64 * t + 0)) fun o12 =>
Option.bind (F_Tape_add n o12 0 σ11) fun σ13 =>
Option.bind (gR σ13 (64 * t + 0)) fun o14 =>
kf_j (α := Int32) (fun x16 σ17 =>
Option.bind (F_Tape_add n o14 x16 σ17) fun σ18 =>
Option.bind (F_Writer_closePiece n t σ18) fun σ19 =>
some σ19) fun k15 =>
if (gS σ13 (64 * r0 + 4)) = 0 then (
k15 0 σ13) else (
k15 1 σ13)
theorem d_Writer_addHeader_0 : decode prog_12_method_4_code 0 = .ok (.aload_n 0, 1) := by decide +kernel
theorem d_Writer_addHeader_1 : decode prog_12_method_4_code 1 = .ok (.ldc 100, 2) := by decide +kernel
theorem d_Writer_addHeader_3 : decode prog_12_method_4_code 3 = .ok (.invokevirtual 67, 3) := by decide +kernel
theorem d_Writer_addHeader_6 : decode prog_12_method_4_code 6 = .ok (.aload_n 0, 1) := by decide +kernel
theorem d_Writer_addHeader_7 : decode prog_12_method_4_code 7 = .ok (.getfield 7, 3) := by decide +kernel
theorem d_Writer_addHeader_10 : decode prog_12_method_4_code 10 = .ok (.aload_n 1, 1) := by decide +kernel
theorem d_Writer_addHeader_11 : decode prog_12_method_4_code 11 = .ok (.getfield 101, 3) := by decide +kernel
theorem d_Writer_addHeader_14 : decode prog_12_method_4_code 14 = .ok (.invokevirtual 97, 3) := by decide +kernel
theorem d_Writer_addHeader_17 : decode prog_12_method_4_code 17 = .ok (.aload_n 0, 1) := by decide +kernel
theorem d_Writer_addHeader_18 : decode prog_12_method_4_code 18 = .ok (.getfield 7, 3) := by decide +kernel
theorem d_Writer_addHeader_21 : decode prog_12_method_4_code 21 = .ok (.aload_n 1, 1) := by decide +kernel
theorem d_Writer_addHeader_22 : decode prog_12_method_4_code 22 = .ok (.getfield 104, 3) := by decide +kernel
theorem d_Writer_addHeader_25 : decode prog_12_method_4_code 25 = .ok (.invokevirtual 97, 3) := by decide +kernel
theorem d_Writer_addHeader_28 : decode prog_12_method_4_code 28 = .ok (.aload_n 0, 1) := by decide +kernel
theorem d_Writer_addHeader_29 : decode prog_12_method_4_code 29 = .ok (.getfield 7, 3) := by decide +kernel
theorem d_Writer_addHeader_32 : decode prog_12_method_4_code 32 = .ok (.aload_n 1, 1) := by decide +kernel
theorem d_Writer_addHeader_33 : decode prog_12_method_4_code 33 = .ok (.getfield 107, 3) := by decide +kernel
theorem d_Writer_addHeader_36 : decode prog_12_method_4_code 36 = .ok (.invokevirtual 41, 3) := by decide +kernel
theorem d_Writer_addHeader_39 : decode prog_12_method_4_code 39 = .ok (.aload_n 0, 1) := by decide +kernel
theorem d_Writer_addHeader_40 : decode prog_12_method_4_code 40 = .ok (.getfield 7, 3) := by decide +kernel
theorem d_Writer_addHeader_43 : decode prog_12_method_4_code 43 = .ok (.aload_n 1, 1) := by decide +kernel
theorem d_Writer_addHeader_44 : decode prog_12_method_4_code 44 = .ok (.getfield 110, 3) := by decide +kernel
theorem d_Writer_addHeader_47 : decode prog_12_method_4_code 47 = .ok (.invokevirtual 41, 3) := by decide +kernel
theorem d_Writer_addHeader_50 : decode prog_12_method_4_code 50 = .ok (.aload_n 0, 1) := by decide +kernel
theorem d_Writer_addHeader_51 : decode prog_12_method_4_code 51 = .ok (.getfield 7, 3) := by decide +kernel
theorem d_Writer_addHeader_54 : decode prog_12_method_4_code 54 = .ok (.iconst 0, 1) := by decide +kernel
theorem d_Writer_addHeader_55 : decode prog_12_method_4_code 55 = .ok (.invokevirtual 41, 3) := by decide +kernel
theorem d_Writer_addHeader_58 : decode prog_12_method_4_code 58 = .ok (.aload_n 0, 1) := by decide +kernel
theorem d_Writer_addHeader_59 : decode prog_12_method_4_code 59 = .ok (.getfield 7, 3) := by decide +kernel
theorem d_Writer_addHeader_62 : decode prog_12_method_4_code 62 = .ok (.iconst 0, 1) := by decide +kernel
theorem d_Writer_addHeader_63 : decode prog_12_method_4_code 63 = .ok (.invokevirtual 41, 3) := by decide +kernel
theorem d_Writer_addHeader_66 : decode prog_12_method_4_code 66 = .ok (.aload_n 0, 1) := by decide +kernel
theorem d_Writer_addHeader_67 : decode prog_12_method_4_code 67 = .ok (.getfield 7, 3) := by decide +kernel
theorem d_Writer_addHeader_70 : decode prog_12_method_4_code 70 = .ok (.aload_n 1, 1) := by decide +kernel
theorem d_Writer_addHeader_71 : decode prog_12_method_4_code 71 = .ok (.getfield 113, 3) := by decide +kernel
theorem d_Writer_addHeader_74 : decode prog_12_method_4_code 74 = .ok (.ifCond .eq 7, 3) := by decide +kernel
theorem d_Writer_addHeader_77 : decode prog_12_method_4_code 77 = .ok (.iconst 1, 1) := by decide +kernel
theorem d_Writer_addHeader_78 : decode prog_12_method_4_code 78 = .ok (.goto 4, 3) := by decide +kernel
theorem d_Writer_addHeader_81 : decode prog_12_method_4_code 81 = .ok (.iconst 0, 1) := by decide +kernel
theorem d_Writer_addHeader_82 : decode prog_12_method_4_code 82 = .ok (.invokevirtual 41, 3) := by decide +kernel
theorem d_Writer_addHeader_85 : decode prog_12_method_4_code 85 = .ok (.aload_n 0, 1) := by decide +kernel
theorem d_Writer_addHeader_86 : decode prog_12_method_4_code 86 = .ok (.invokevirtual 83, 3) := by decide +kernel
theorem d_Writer_addHeader_89 : decode prog_12_method_4_code 89 = .ok (.return_, 1) := by decide +kernel
set_option maxRecDepth 100000 in
set_option maxHeartbeats 4000000 in
theorem c_Writer_addHeader {l0 : Launch} (hl : l0.stackTraces = false) (n : Nat) (ids : List Nat) {t : Nat} (ht : mm_ok ids t 1 8) {r0 : Nat} (hr0 : mm_ok ids r0 1 10)  (σ : Mm) : kw_C l0 y_Writer_addHeader (Cond.code y_Writer_addHeader prog_12_method_4_code 2 none :: kw_Ts) rm_Writer_addHeader kw_ov ids [] [.ref t, .ref r0] σ (F_Writer_addHeader n t r0 σ) := by
  refine kw_start (L0 := [some (.ref t), some (.ref r0)]) hl (by decide +kernel) (Nat.le_of_ble_eq_true rfl) rfl (fun Γ ad C Ce => ?_)
  unfold F_Writer_addHeader
  refine kw_aload_n C d_Writer_addHeader_0 rfl ?_
  refine kw_ldc (v := 1229472850) C d_Writer_addHeader_1 k_Writer_100 ?_
  refine kw_callVv (cl' := 0) (sl' := 0) (As := [.int 1229472850]) C (c_Writer_startPiece hl n ids ht 1229472850 σ) mi_Writer_67 v_Writer_startPiece ⟨_, _, rfl⟩ ht ⟨Nat.le_of_ble_eq_true rfl, Nat.le_of_ble_eq_true rfl⟩ (Nat.le_of_ble_eq_true rfl) ⟨Nat.le_of_ble_eq_true rfl, Nat.le_of_ble_eq_true rfl⟩ ⟨rfl, rfl⟩ rfl d_Writer_addHeader_3 (fun σ1 => ?_)
  refine kw_aload_n C d_Writer_addHeader_6 rfl ?_
  refine kw_getR C fi_Writer_7 rfl rfl ht d_Writer_addHeader_7 (fun o2 ho2 => ?_)
  refine kw_aload_n C d_Writer_addHeader_10 rfl ?_
  refine kw_getI C fi_Writer_101 (Or.inl rfl) hr0 d_Writer_addHeader_11 ?_
  refine kw_callVv (cl' := 0) (sl' := 0) (As := [.int (gS σ1 (64 * r0 + 0))]) C (c_Tape_addNumber hl n ids ho2 (gS σ1 (64 * r0 + 0)) σ1) mi_Writer_97 v_Tape_addNumber ⟨_, _, rfl⟩ ho2 ⟨Nat.le_of_ble_eq_true rfl, Nat.le_of_ble_eq_true rfl⟩ (Nat.le_of_ble_eq_true rfl) ⟨Nat.le_of_ble_eq_true rfl, Nat.le_of_ble_eq_true rfl⟩ ⟨rfl, rfl⟩ rfl d_Writer_addHeader_14 (fun σ3 => ?_)
  refine kw_aload_n C d_Writer_addHeader_17 rfl ?_
  refine kw_getR C fi_Writer_7 rfl rfl ht d_Writer_addHeader_18 (fun o4 ho4 => ?_)
  refine kw_aload_n C d_Writer_addHeader_21 rfl ?_
  refine kw_getI C fi_Writer_104 (Or.inl rfl) hr0 d_Writer_addHeader_22 ?_
  refine kw_callVv (cl' := 0) (sl' := 0) (As := [.int (gS σ3 (64 * r0 + 1))]) C (c_Tape_addNumber hl n ids ho4 (gS σ3 (64 * r0 + 1)) σ3) mi_Writer_97 v_Tape_addNumber ⟨_, _, rfl⟩ ho4 ⟨Nat.le_of_ble_eq_true rfl, Nat.le_of_ble_eq_true rfl⟩ (Nat.le_of_ble_eq_true rfl) ⟨Nat.le_of_ble_eq_true rfl, Nat.le_of_ble_eq_true rfl⟩ ⟨rfl, rfl⟩ rfl d_Writer_addHeader_25 (fun σ5 => ?_)
  refine kw_aload_n C d_Writer_addHeader_28 rfl ?_
  refine kw_getR C fi_Writer_7 rfl rfl ht d_Writer_addHeader_29 (fun o6 ho6 => ?_)
  refine kw_aload_n C d_Writer_addHeader_32 rfl ?_
  refine kw_getI C fi_Writer_107 (Or.inl rfl) hr0 d_Writer_addHeader_33 ?_
  refine kw_callVv (cl' := 0) (sl' := 0) (As := [.int (gS σ5 (64 * r0 + 3))]) C (c_Tape_add hl n ids ho6 (gS σ5 (64 * r0 + 3)) σ5) mi_Writer_41 v_Tape_add ⟨_, _, rfl⟩ ho6 ⟨Nat.le_of_ble_eq_true rfl, Nat.le_of_ble_eq_true rfl⟩ (Nat.le_of_ble_eq_true rfl) ⟨Nat.le_of_ble_eq_true rfl, Nat.le_of_ble_eq_true rfl⟩ ⟨rfl, rfl⟩ rfl d_Writer_addHeader_36 (fun σ7 => ?_)
  refine kw_aload_n C d_Writer_addHeader_39 rfl ?_
  refine kw_getR C fi_Writer_7 rfl rfl ht d_Writer_addHeader_40 (fun o8 ho8 => ?_)
  refine kw_aload_n C d_Writer_addHeader_43 rfl ?_
  refine kw_getI C fi_Writer_110 (Or.inl rfl) hr0 d_Writer_addHeader_44 ?_
  refine kw_callVv (cl' := 0) (sl' := 0) (As := [.int (gS σ7 (64 * r0 + 2))]) C (c_Tape_add hl n ids ho8 (gS σ7 (64 * r0 + 2)) σ7) mi_Writer_41 v_Tape_add ⟨_, _, rfl⟩ ho8 ⟨Nat.le_of_ble_eq_true rfl, Nat.le_of_ble_eq_true rfl⟩ (Nat.le_of_ble_eq_true rfl) ⟨Nat.le_of_ble_eq_true rfl, Nat.le_of_ble_eq_true rfl⟩ ⟨rfl, rfl⟩ rfl d_Writer_addHeader_47 (fun σ9 => ?_)
  refine kw_aload_n C d_Writer_addHeader_50 rfl ?_
  refine kw_getR C fi_Writer_7 rfl rfl ht d_Writer_addHeader_51 (fun o10 ho10 => ?_)
  refine kw_iconst (v := 0) C d_Writer_addHeader_54 (by decide) ?_
  refine kw_callVv (cl' := 0) (sl' := 0) (As := [.int 0]) C (c_Tape_add hl n ids ho10 0 σ9) mi_Writer_41 v_Tape_add ⟨_, _, rfl⟩ ho10 ⟨Nat.le_of_ble_eq_true rfl, Nat.le_of_ble_eq_true rfl⟩ (Nat.le_of_ble_eq_true rfl) ⟨Nat.le_of_ble_eq_true rfl, Nat.le_of_ble_eq_true rfl⟩ ⟨rfl, rfl⟩ rfl d_Writer_addHeader_55 (fun σ11 => ?_)
  refine kw_aload_n C d_Writer_addHeader_58 rfl ?_
  refine kw_getR C fi_Writer_7 rfl rfl ht d_Writer_addHeader_59 (fun o12 ho12 => ?_)
  refine kw_iconst (v := 0) C d_Writer_addHeader_62 (by decide) ?_
  refine kw_callVv (cl' := 0) (sl' := 0) (As := [.int 0]) C (c_Tape_add hl n ids ho12 0 σ11) mi_Writer_41 v_Tape_add ⟨_, _, rfl⟩ ho12 ⟨Nat.le_of_ble_eq_true rfl, Nat.le_of_ble_eq_true rfl⟩ (Nat.le_of_ble_eq_true rfl) ⟨Nat.le_of_ble_eq_true rfl, Nat.le_of_ble_eq_true rfl⟩ ⟨rfl, rfl⟩ rfl d_Writer_addHeader_63 (fun σ13 => ?_)
  refine kw_aload_n C d_Writer_addHeader_66 rfl ?_
  refine kw_getR C fi_Writer_7 rfl rfl ht d_Writer_addHeader_67 (fun o14 ho14 => ?_)
  refine kw_aload_n C d_Writer_addHeader_70 rfl ?_
  refine kw_getI C fi_Writer_113 (Or.inr rfl) hr0 d_Writer_addHeader_71 ?_
  refine kw_j (α := Int32) (pcj := 82) (Lj := fun x16 => [some (.ref t), none]) (stj := fun x16 => [.int x16, .ref o14]) (fun x16 σ17 => ?_) (fun k15 hk15 => ?_)
  · refine kw_callVv (cl' := 0) (sl' := 0) (As := [.int x16]) C (c_Tape_add hl n ids ho14 x16 σ17) mi_Writer_41 v_Tape_add ⟨_, _, rfl⟩ ho14 ⟨Nat.le_of_ble_eq_true rfl, Nat.le_of_ble_eq_true rfl⟩ (Nat.le_of_ble_eq_true rfl) ⟨Nat.le_of_ble_eq_true rfl, Nat.le_of_ble_eq_true rfl⟩ ⟨rfl, rfl⟩ rfl d_Writer_addHeader_82 (fun σ18 => ?_)
    refine kw_aload_n C d_Writer_addHeader_85 rfl ?_
    refine kw_callVv (cl' := 0) (sl' := 0) (As := []) C (c_Writer_closePiece hl n ids ht  σ18) mi_Writer_83 v_Writer_closePiece ⟨_, _, rfl⟩ ht ⟨Nat.le_of_ble_eq_true rfl, Nat.le_of_ble_eq_true rfl⟩ (Nat.le_of_ble_eq_true rfl) ⟨Nat.le_of_ble_eq_true rfl, Nat.le_of_ble_eq_true rfl⟩ ⟨rfl, rfl⟩ rfl d_Writer_addHeader_86 (fun σ19 => ?_)
    exact kw_vret C Ce rfl (by simp) (fun _ _ => rfl) (Nat.le_of_ble_eq_true rfl) (Nat.le_of_ble_eq_true rfl) rfl d_Writer_addHeader_89
  · refine kw_if_eq (tgt := 81) C d_Writer_addHeader_74 (by decide) ?_ ?_
    · refine kw_iconst (v := 0) C d_Writer_addHeader_81 (by decide) ?_
      exact kw_wk (hk15 0 σ13) ⟨Or.inr rfl, Or.inl rfl, trivial⟩
    · refine kw_iconst (v := 1) C d_Writer_addHeader_77 (by decide) ?_
      refine kw_goto (tgt := 82) C d_Writer_addHeader_78 (by decide) ?_
      exact kw_wk (hk15 1 σ13) ⟨Or.inr rfl, Or.inl rfl, trivial⟩
/-! Writer_addColours -/
def rm_Writer_addColours : Room := { frames := 4, cells := 0, slots := 0, locals := 84 }
def F_Writer_addColours (n : Nat) (t : Nat) (r0 : Nat) (σ : Mm) : Option (Mm) :=
Option.bind (F_Writer_startPiece n t 1347179589 σ) fun σ1 =>
kf_l (α := Int32) n (fun k2 x3 σ4 =>
if ((3 : Int32) * (gS σ4 (64 * r0 + 6))) ≤ x3 then (
Option.bind (F_Writer_closePiece n t σ4) fun σ5 =>
some σ5) else (
Option.bind (gR σ4 (64 * t + 0)) fun o6 =>
Option.bind (gR σ4 (64 * r0 + 9)) fun o7 =>
kf_in x3 (mm_kd o7).2.2 <|
Option.bind (F_Tape_add n o6 (gB σ4 o7 x3.toNatClampNeg) σ4) fun σ8 =>
kf_let (x3 + Int32.ofInt 1) fun x9 =>
k2 x9 σ8)) 0 σ1
theorem d_Writer_addColours_0 : decode prog_12_method_5_code 0 = .ok (.aload_n 0, 1) := by decide +kernel
theorem d_Writer_addColours_1 : decode prog_12_method_5_code 1 = .ok (.ldc 117, 2) := by decide +kernel
theorem d_Writer_addColours_3 : decode prog_12_method_5_code 3 = .ok (.invokevirtual 67, 3) := by decide +kernel
theorem d_Writer_addColours_6 : decode prog_12_method_5_code 6 = .ok (.iconst 0, 1) := by decide +kernel
theorem d_Writer_addColours_7 : decode prog_12_method_5_code 7 = .ok (.istore_n 2, 1) := by decide +kernel
theorem d_Writer_addColours_8 : decode prog_12_method_5_code 8 = .ok (.iload_n 2, 1) := by decide +kernel
theorem d_Writer_addColours_9 : decode prog_12_method_5_code 9 = .ok (.iconst 3, 1) := by decide +kernel
theorem d_Writer_addColours_10 : decode prog_12_method_5_code 10 = .ok (.aload_n 1, 1) := by decide +kernel
theorem d_Writer_addColours_11 : decode prog_12_method_5_code 11 = .ok (.getfield 49, 3) := by decide +kernel
theorem d_Writer_addColours_14 : decode prog_12_method_5_code 14 = .ok (.imul, 1) := by decide +kernel
theorem d_Writer_addColours_15 : decode prog_12_method_5_code 15 = .ok (.if_icmp .ge 22, 3) := by decide +kernel
theorem d_Writer_addColours_18 : decode prog_12_method_5_code 18 = .ok (.aload_n 0, 1) := by decide +kernel
theorem d_Writer_addColours_19 : decode prog_12_method_5_code 19 = .ok (.getfield 7, 3) := by decide +kernel
theorem d_Writer_addColours_22 : decode prog_12_method_5_code 22 = .ok (.aload_n 1, 1) := by decide +kernel
theorem d_Writer_addColours_23 : decode prog_12_method_5_code 23 = .ok (.getfield 118, 3) := by decide +kernel
theorem d_Writer_addColours_26 : decode prog_12_method_5_code 26 = .ok (.iload_n 2, 1) := by decide +kernel
theorem d_Writer_addColours_27 : decode prog_12_method_5_code 27 = .ok (.iaload, 1) := by decide +kernel
theorem d_Writer_addColours_28 : decode prog_12_method_5_code 28 = .ok (.invokevirtual 41, 3) := by decide +kernel
theorem d_Writer_addColours_31 : decode prog_12_method_5_code 31 = .ok (.iinc 2 1, 3) := by decide +kernel
theorem d_Writer_addColours_34 : decode prog_12_method_5_code 34 = .ok (.goto (-26), 3) := by decide +kernel
theorem d_Writer_addColours_37 : decode prog_12_method_5_code 37 = .ok (.aload_n 0, 1) := by decide +kernel
theorem d_Writer_addColours_38 : decode prog_12_method_5_code 38 = .ok (.invokevirtual 83, 3) := by decide +kernel
theorem d_Writer_addColours_41 : decode prog_12_method_5_code 41 = .ok (.return_, 1) := by decide +kernel
set_option maxRecDepth 100000 in
set_option maxHeartbeats 4000000 in
theorem c_Writer_addColours {l0 : Launch} (hl : l0.stackTraces = false) (n : Nat) (ids : List Nat) {t : Nat} (ht : mm_ok ids t 1 8) {r0 : Nat} (hr0 : mm_ok ids r0 1 10)  (σ : Mm) : kw_C l0 y_Writer_addColours (Cond.code y_Writer_addColours prog_12_method_5_code 3 none :: kw_Ts) rm_Writer_addColours kw_ov ids [] [.ref t, .ref r0] σ (F_Writer_addColours n t r0 σ) := by
  refine kw_start (L0 := [some (.ref t), some (.ref r0), none]) hl (by decide +kernel) (Nat.le_of_ble_eq_true rfl) rfl (fun Γ ad C Ce => ?_)
  unfold F_Writer_addColours
  refine kw_aload_n C d_Writer_addColours_0 rfl ?_
  refine kw_ldc (v := 1347179589) C d_Writer_addColours_1 k_Writer_117 ?_
  refine kw_callVv (cl' := 0) (sl' := 0) (As := [.int 1347179589]) C (c_Writer_startPiece hl n ids ht 1347179589 σ) mi_Writer_67 v_Writer_startPiece ⟨_, _, rfl⟩ ht ⟨Nat.le_of_ble_eq_true rfl, Nat.le_of_ble_eq_true rfl⟩ (Nat.le_of_ble_eq_true rfl) ⟨Nat.le_of_ble_eq_true rfl, Nat.le_of_ble_eq_true rfl⟩ ⟨rfl, rfl⟩ rfl d_Writer_addColours_3 (fun σ1 => ?_)
  refine kw_iconst (v := 0) C d_Writer_addColours_6 (by decide) ?_
  refine kw_istore_n (L' := [some (.ref t), some (.ref r0), some (.int 0)]) C d_Writer_addColours_7 (by decide) rfl ?_
  refine kw_wk (kw_l (α := Int32) (pc := 8) (Lj := fun x3 => [some (.ref t), some (.ref r0), some (.int x3)]) (stj := fun x3 => []) (fun k2 hk2 x3 σ4 => ?_) n 0 σ1) ⟨Or.inr rfl, Or.inr rfl, Or.inr rfl, trivial⟩
  refine kw_iload_n C d_Writer_addColours_8 rfl ?_
  refine kw_iconst (v := 3) C d_Writer_addColours_9 (by decide) ?_
  refine kw_aload_n C d_Writer_addColours_10 rfl ?_
  refine kw_getI C fi_Writer_49 (Or.inl rfl) hr0 d_Writer_addColours_11 ?_
  refine kw_imul C d_Writer_addColours_14 ?_
  refine kw_icmp_ge (tgt := 37) C d_Writer_addColours_15 (by decide) ?_ ?_
  · refine kw_aload_n C d_Writer_addColours_37 rfl ?_
    refine kw_callVv (cl' := 0) (sl' := 0) (As := []) C (c_Writer_closePiece hl n ids ht  σ4) mi_Writer_83 v_Writer_closePiece ⟨_, _, rfl⟩ ht ⟨Nat.le_of_ble_eq_true rfl, Nat.le_of_ble_eq_true rfl⟩ (Nat.le_of_ble_eq_true rfl) ⟨Nat.le_of_ble_eq_true rfl, Nat.le_of_ble_eq_true rfl⟩ ⟨rfl, rfl⟩ rfl d_Writer_addColours_38 (fun σ5 => ?_)
    exact kw_vret C Ce rfl (by simp) (fun _ _ => rfl) (Nat.le_of_ble_eq_true rfl) (Nat.le_of_ble_eq_true rfl) rfl d_Writer_addColours_41
  · refine kw_aload_n C d_Writer_addColours_18 rfl ?_
    refine kw_getR C fi_Writer_7 rfl rfl ht d_Writer_addColours_19 (fun o6 ho6 => ?_)
    refine kw_aload_n C d_Writer_addColours_22 rfl ?_
    refine kw_getR C fi_Writer_118 rfl rfl hr0 d_Writer_addColours_23 (fun o7 ho7 => ?_)
    refine kw_iload_n C d_Writer_addColours_26 rfl ?_
    refine kw_iald C (Or.inl ⟨ho7.1, ho7.2.1⟩) d_Writer_addColours_27 ?_
    refine kw_callVv (cl' := 0) (sl' := 0) (As := [.int (gB σ4 o7 x3.toNatClampNeg)]) C (c_Tape_add hl n ids ho6 (gB σ4 o7 x3.toNatClampNeg) σ4) mi_Writer_41 v_Tape_add ⟨_, _, rfl⟩ ho6 ⟨Nat.le_of_ble_eq_true rfl, Nat.le_of_ble_eq_true rfl⟩ (Nat.le_of_ble_eq_true rfl) ⟨Nat.le_of_ble_eq_true rfl, Nat.le_of_ble_eq_true rfl⟩ ⟨rfl, rfl⟩ rfl d_Writer_addColours_28 (fun σ8 => ?_)
    refine kw_iincL (L2 := fun x9 => [some (.ref t), some (.ref r0), some (.int x9)]) C d_Writer_addColours_31 (by decide) rfl (fun _ => rfl) (fun x9 => ?_)
    refine kw_goto (tgt := 8) C d_Writer_addColours_34 (by decide) ?_
    exact kw_wk (hk2 x9 σ8) ⟨Or.inr rfl, Or.inr rfl, Or.inr rfl, trivial⟩
/-! Writer_addThins -/
def rm_Writer_addThins : Room := { frames := 4, cells := 0, slots := 0, locals := 84 }
def F_Writer_addThins (n : Nat) (t : Nat) (r0 : Nat) (σ : Mm) : Option (Mm) :=
Option.bind (F_Writer_startPiece n t 1951551059 σ) fun σ1 =>
kf_l (α := Int32) n (fun k2 x3 σ4 =>
if (gS σ4 (64 * r0 + 7)) ≤ x3 then (
Option.bind (F_Writer_closePiece n t σ4) fun σ5 =>
some σ5) else (
kf_j (α := Unit) (fun x7 σ8 =>
kf_let (x3 + Int32.ofInt 1) fun x9 =>
k2 x9 σ8) fun k6 =>
if (gS σ4 (64 * r0 + 2)) = 3 then (
Option.bind (gR σ4 (64 * t + 0)) fun o13 =>
Option.bind (gR σ4 (64 * r0 + 10)) fun o14 =>
kf_in x3 (mm_kd o14).2.2 <|
Option.bind (F_Tape_add n o13 (gB σ4 o14 x3.toNatClampNeg) σ4) fun σ15 =>
k6 () σ15) else (
Option.bind (gR σ4 (64 * t + 0)) fun o10 =>
Option.bind (gR σ4 (64 * r0 + 10)) fun o11 =>
kf_in x3 (mm_kd o11).2.2 <|
Option.bind (F_Tape_addPair n o10 (gB σ4 o11 x3.toNatClampNeg) σ4) fun σ12 =>
k6 () σ12))) 0 σ1
theorem d_Writer_addThins_0 : decode prog_12_method_6_code 0 = .ok (.aload_n 0, 1) := by decide +kernel
theorem d_Writer_addThins_1 : decode prog_12_method_6_code 1 = .ok (.ldc 121, 2) := by decide +kernel
theorem d_Writer_addThins_3 : decode prog_12_method_6_code 3 = .ok (.invokevirtual 67, 3) := by decide +kernel
theorem d_Writer_addThins_6 : decode prog_12_method_6_code 6 = .ok (.iconst 0, 1) := by decide +kernel
theorem d_Writer_addThins_7 : decode prog_12_method_6_code 7 = .ok (.istore_n 2, 1) := by decide +kernel
theorem d_Writer_addThins_8 : decode prog_12_method_6_code 8 = .ok (.iload_n 2, 1) := by decide +kernel
theorem d_Writer_addThins_9 : decode prog_12_method_6_code 9 = .ok (.aload_n 1, 1) := by decide +kernel
theorem d_Writer_addThins_10 : decode prog_12_method_6_code 10 = .ok (.getfield 57, 3) := by decide +kernel
theorem d_Writer_addThins_13 : decode prog_12_method_6_code 13 = .ok (.if_icmp .ge 46, 3) := by decide +kernel
theorem d_Writer_addThins_16 : decode prog_12_method_6_code 16 = .ok (.aload_n 1, 1) := by decide +kernel
theorem d_Writer_addThins_17 : decode prog_12_method_6_code 17 = .ok (.getfield 110, 3) := by decide +kernel
theorem d_Writer_addThins_20 : decode prog_12_method_6_code 20 = .ok (.iconst 3, 1) := by decide +kernel
theorem d_Writer_addThins_21 : decode prog_12_method_6_code 21 = .ok (.if_icmp .ne 19, 3) := by decide +kernel
theorem d_Writer_addThins_24 : decode prog_12_method_6_code 24 = .ok (.aload_n 0, 1) := by decide +kernel
theorem d_Writer_addThins_25 : decode prog_12_method_6_code 25 = .ok (.getfield 7, 3) := by decide +kernel
theorem d_Writer_addThins_28 : decode prog_12_method_6_code 28 = .ok (.aload_n 1, 1) := by decide +kernel
theorem d_Writer_addThins_29 : decode prog_12_method_6_code 29 = .ok (.getfield 122, 3) := by decide +kernel
theorem d_Writer_addThins_32 : decode prog_12_method_6_code 32 = .ok (.iload_n 2, 1) := by decide +kernel
theorem d_Writer_addThins_33 : decode prog_12_method_6_code 33 = .ok (.iaload, 1) := by decide +kernel
theorem d_Writer_addThins_34 : decode prog_12_method_6_code 34 = .ok (.invokevirtual 41, 3) := by decide +kernel
theorem d_Writer_addThins_37 : decode prog_12_method_6_code 37 = .ok (.goto 16, 3) := by decide +kernel
theorem d_Writer_addThins_40 : decode prog_12_method_6_code 40 = .ok (.aload_n 0, 1) := by decide +kernel
theorem d_Writer_addThins_41 : decode prog_12_method_6_code 41 = .ok (.getfield 7, 3) := by decide +kernel
theorem d_Writer_addThins_44 : decode prog_12_method_6_code 44 = .ok (.aload_n 1, 1) := by decide +kernel
theorem d_Writer_addThins_45 : decode prog_12_method_6_code 45 = .ok (.getfield 122, 3) := by decide +kernel
theorem d_Writer_addThins_48 : decode prog_12_method_6_code 48 = .ok (.iload_n 2, 1) := by decide +kernel
theorem d_Writer_addThins_49 : decode prog_12_method_6_code 49 = .ok (.iaload, 1) := by decide +kernel
theorem d_Writer_addThins_50 : decode prog_12_method_6_code 50 = .ok (.invokevirtual 125, 3) := by decide +kernel
theorem d_Writer_addThins_53 : decode prog_12_method_6_code 53 = .ok (.iinc 2 1, 3) := by decide +kernel
theorem d_Writer_addThins_56 : decode prog_12_method_6_code 56 = .ok (.goto (-48), 3) := by decide +kernel
theorem d_Writer_addThins_59 : decode prog_12_method_6_code 59 = .ok (.aload_n 0, 1) := by decide +kernel
theorem d_Writer_addThins_60 : decode prog_12_method_6_code 60 = .ok (.invokevirtual 83, 3) := by decide +kernel
theorem d_Writer_addThins_63 : decode prog_12_method_6_code 63 = .ok (.return_, 1) := by decide +kernel
set_option maxRecDepth 100000 in
set_option maxHeartbeats 4000000 in
theorem c_Writer_addThins {l0 : Launch} (hl : l0.stackTraces = false) (n : Nat) (ids : List Nat) {t : Nat} (ht : mm_ok ids t 1 8) {r0 : Nat} (hr0 : mm_ok ids r0 1 10)  (σ : Mm) : kw_C l0 y_Writer_addThins (Cond.code y_Writer_addThins prog_12_method_6_code 3 none :: kw_Ts) rm_Writer_addThins kw_ov ids [] [.ref t, .ref r0] σ (F_Writer_addThins n t r0 σ) := by
  refine kw_start (L0 := [some (.ref t), some (.ref r0), none]) hl (by decide +kernel) (Nat.le_of_ble_eq_true rfl) rfl (fun Γ ad C Ce => ?_)
  unfold F_Writer_addThins
  refine kw_aload_n C d_Writer_addThins_0 rfl ?_
  refine kw_ldc (v := 1951551059) C d_Writer_addThins_1 k_Writer_121 ?_
  refine kw_callVv (cl' := 0) (sl' := 0) (As := [.int 1951551059]) C (c_Writer_startPiece hl n ids ht 1951551059 σ) mi_Writer_67 v_Writer_startPiece ⟨_, _, rfl⟩ ht ⟨Nat.le_of_ble_eq_true rfl, Nat.le_of_ble_eq_true rfl⟩ (Nat.le_of_ble_eq_true rfl) ⟨Nat.le_of_ble_eq_true rfl, Nat.le_of_ble_eq_true rfl⟩ ⟨rfl, rfl⟩ rfl d_Writer_addThins_3 (fun σ1 => ?_)
  refine kw_iconst (v := 0) C d_Writer_addThins_6 (by decide) ?_
  refine kw_istore_n (L' := [some (.ref t), some (.ref r0), some (.int 0)]) C d_Writer_addThins_7 (by decide) rfl ?_
  refine kw_wk (kw_l (α := Int32) (pc := 8) (Lj := fun x3 => [some (.ref t), some (.ref r0), some (.int x3)]) (stj := fun x3 => []) (fun k2 hk2 x3 σ4 => ?_) n 0 σ1) ⟨Or.inr rfl, Or.inr rfl, Or.inr rfl, trivial⟩
  refine kw_iload_n C d_Writer_addThins_8 rfl ?_
  refine kw_aload_n C d_Writer_addThins_9 rfl ?_
  refine kw_getI C fi_Writer_57 (Or.inl rfl) hr0 d_Writer_addThins_10 ?_
  refine kw_icmp_ge (tgt := 59) C d_Writer_addThins_13 (by decide) ?_ ?_
  · refine kw_aload_n C d_Writer_addThins_59 rfl ?_
    refine kw_callVv (cl' := 0) (sl' := 0) (As := []) C (c_Writer_closePiece hl n ids ht  σ4) mi_Writer_83 v_Writer_closePiece ⟨_, _, rfl⟩ ht ⟨Nat.le_of_ble_eq_true rfl, Nat.le_of_ble_eq_true rfl⟩ (Nat.le_of_ble_eq_true rfl) ⟨Nat.le_of_ble_eq_true rfl, Nat.le_of_ble_eq_true rfl⟩ ⟨rfl, rfl⟩ rfl d_Writer_addThins_60 (fun σ5 => ?_)
    exact kw_vret C Ce rfl (by simp) (fun _ _ => rfl) (Nat.le_of_ble_eq_true rfl) (Nat.le_of_ble_eq_true rfl) rfl d_Writer_addThins_63
  · refine kw_aload_n C d_Writer_addThins_16 rfl ?_
    refine kw_getI C fi_Writer_110 (Or.inl rfl) hr0 d_Writer_addThins_17 ?_
    refine kw_iconst (v := 3) C d_Writer_addThins_20 (by decide) ?_
    refine kw_j (α := Unit) (pcj := 53) (Lj := fun x7 => [some (.ref t), some (.ref r0), some (.int x3)]) (stj := fun x7 => []) (fun x7 σ8 => ?_) (fun k6 hk6 => ?_)
    · refine kw_iincL (L2 := fun x9 => [some (.ref t), some (.ref r0), some (.int x9)]) C d_Writer_addThins_53 (by decide) rfl (fun _ => rfl) (fun x9 => ?_)
      refine kw_goto (tgt := 8) C d_Writer_addThins_56 (by decide) ?_
      exact kw_wk (hk2 x9 σ8) ⟨Or.inr rfl, Or.inr rfl, Or.inr rfl, trivial⟩
    · refine kw_icmp_ne (tgt := 40) C d_Writer_addThins_21 (by decide) ?_ ?_
      · refine kw_aload_n C d_Writer_addThins_40 rfl ?_
        refine kw_getR C fi_Writer_7 rfl rfl ht d_Writer_addThins_41 (fun o10 ho10 => ?_)
        refine kw_aload_n C d_Writer_addThins_44 rfl ?_
        refine kw_getR C fi_Writer_122 rfl rfl hr0 d_Writer_addThins_45 (fun o11 ho11 => ?_)
        refine kw_iload_n C d_Writer_addThins_48 rfl ?_
        refine kw_iald C (Or.inl ⟨ho11.1, ho11.2.1⟩) d_Writer_addThins_49 ?_
        refine kw_callVv (cl' := 0) (sl' := 0) (As := [.int (gB σ4 o11 x3.toNatClampNeg)]) C (c_Tape_addPair hl n ids ho10 (gB σ4 o11 x3.toNatClampNeg) σ4) mi_Writer_125 v_Tape_addPair ⟨_, _, rfl⟩ ho10 ⟨Nat.le_of_ble_eq_true rfl, Nat.le_of_ble_eq_true rfl⟩ (Nat.le_of_ble_eq_true rfl) ⟨Nat.le_of_ble_eq_true rfl, Nat.le_of_ble_eq_true rfl⟩ ⟨rfl, rfl⟩ rfl d_Writer_addThins_50 (fun σ12 => ?_)
        exact kw_wk (hk6 () σ12) ⟨Or.inr rfl, Or.inr rfl, Or.inr rfl, trivial⟩
      · refine kw_aload_n C d_Writer_addThins_24 rfl ?_
        refine kw_getR C fi_Writer_7 rfl rfl ht d_Writer_addThins_25 (fun o13 ho13 => ?_)
        refine kw_aload_n C d_Writer_addThins_28 rfl ?_
        refine kw_getR C fi_Writer_122 rfl rfl hr0 d_Writer_addThins_29 (fun o14 ho14 => ?_)
        refine kw_iload_n C d_Writer_addThins_32 rfl ?_
        refine kw_iald C (Or.inl ⟨ho14.1, ho14.2.1⟩) d_Writer_addThins_33 ?_
        refine kw_callVv (cl' := 0) (sl' := 0) (As := [.int (gB σ4 o14 x3.toNatClampNeg)]) C (c_Tape_add hl n ids ho13 (gB σ4 o14 x3.toNatClampNeg) σ4) mi_Writer_41 v_Tape_add ⟨_, _, rfl⟩ ho13 ⟨Nat.le_of_ble_eq_true rfl, Nat.le_of_ble_eq_true rfl⟩ (Nat.le_of_ble_eq_true rfl) ⟨Nat.le_of_ble_eq_true rfl, Nat.le_of_ble_eq_true rfl⟩ ⟨rfl, rfl⟩ rfl d_Writer_addThins_34 (fun σ15 => ?_)
        refine kw_goto (tgt := 53) C d_Writer_addThins_37 (by decide) ?_
        exact kw_wk (hk6 () σ15) ⟨Or.inr rfl, Or.inr rfl, Or.inr rfl, trivial⟩
/-! Rows_filterAll -/
def rm_Rows_filterAll : Room := { frames := 5, cells := 0, slots := 0, locals := 128 }
def F_Rows_filterAll (n : Nat) (t : Nat) (r0 : Nat) (σ : Mm) : Option (Mm) :=
Option.bind (gR σ (64 * r0 + 11)) fun o1 =>
kf_l (α := Int32) n (fun k2 x3 σ4 =>
if (gS σ4 (64 * o1 + 0)) ≤ x3 then (
some σ4) else (
Option.bind (F_Rows_gather n t r0 x3 σ4) fun σ5 =>
kf_c2 (F_Rows_bestFilter n t o1 x3 σ5) fun x6 σ7 =>
Option.bind (gR σ7 (64 * o1 + 7)) fun o8 =>
kf_in x3 (mm_kd o8).2.2 <|
kf_let ((gB σ7 o8 x3.toNatClampNeg) + 1 : Int32) fun x9 =>
Option.bind (gR σ7 (64 * t + 0)) fun o10 =>
kf_in (x9 - 1) (mm_kd o10).2.2 <| kf_let (pB σ7 o10 (x9 - 1).toNatClampNeg x6) fun σ11 =>
kf_l (α := Int32) n (fun k12 x13 σ14 =>
Option.bind (gR σ14 (64 * o1 + 8)) fun o15 =>
kf_in x3 (mm_kd o15).2.2 <|
if (gB σ14 o15 x3.toNatClampNeg) ≤ x13 then (
kf_let (x3 + Int32.ofInt 1) fun x16 =>
k2 x16 σ14) else (
Option.bind (gR σ14 (64 * t + 0)) fun o17 =>
Option.bind (gR σ14 (64 * t + 1)) fun o18 =>
kf_let (x9 + x13 : Int32) fun x19 =>
kf_in x19 (mm_kd o18).2.2 <|
kf_c2 (F_Rows_guess n t o1 x3 x13 x6 σ14) fun x20 σ21 =>
kf_in (x9 + x13) (mm_kd o17).2.2 <| kf_let (pB σ21 o17 (x9 + x13).toNatClampNeg (((gB σ14 o18 x19.toNatClampNeg) - x20) &&& 255)) fun σ22 =>
kf_let (x13 + Int32.ofInt 1) fun x23 =>
k12 x23 σ22)) 0 σ11)) 0 σ
theorem d_Rows_filterAll_0 : decode prog_9_method_10_code 0 = .ok (.aload_n 1, 1) := by decide +kernel
theorem d_Rows_filterAll_1 : decode prog_9_method_10_code 1 = .ok (.getfield 19, 3) := by decide +kernel
theorem d_Rows_filterAll_4 : decode prog_9_method_10_code 4 = .ok (.astore_n 2, 1) := by decide +kernel
theorem d_Rows_filterAll_5 : decode prog_9_method_10_code 5 = .ok (.iconst 0, 1) := by decide +kernel
theorem d_Rows_filterAll_6 : decode prog_9_method_10_code 6 = .ok (.istore_n 3, 1) := by decide +kernel
theorem d_Rows_filterAll_7 : decode prog_9_method_10_code 7 = .ok (.iload_n 3, 1) := by decide +kernel
theorem d_Rows_filterAll_8 : decode prog_9_method_10_code 8 = .ok (.aload_n 2, 1) := by decide +kernel
theorem d_Rows_filterAll_9 : decode prog_9_method_10_code 9 = .ok (.getfield 88, 3) := by decide +kernel
theorem d_Rows_filterAll_12 : decode prog_9_method_10_code 12 = .ok (.if_icmp .ge 99, 3) := by decide +kernel
theorem d_Rows_filterAll_15 : decode prog_9_method_10_code 15 = .ok (.aload_n 0, 1) := by decide +kernel
theorem d_Rows_filterAll_16 : decode prog_9_method_10_code 16 = .ok (.aload_n 1, 1) := by decide +kernel
theorem d_Rows_filterAll_17 : decode prog_9_method_10_code 17 = .ok (.iload_n 3, 1) := by decide +kernel
theorem d_Rows_filterAll_18 : decode prog_9_method_10_code 18 = .ok (.invokevirtual 91, 3) := by decide +kernel
theorem d_Rows_filterAll_21 : decode prog_9_method_10_code 21 = .ok (.aload_n 0, 1) := by decide +kernel
theorem d_Rows_filterAll_22 : decode prog_9_method_10_code 22 = .ok (.aload_n 2, 1) := by decide +kernel
theorem d_Rows_filterAll_23 : decode prog_9_method_10_code 23 = .ok (.iload_n 3, 1) := by decide +kernel
theorem d_Rows_filterAll_24 : decode prog_9_method_10_code 24 = .ok (.invokevirtual 95, 3) := by decide +kernel
theorem d_Rows_filterAll_27 : decode prog_9_method_10_code 27 = .ok (.istore 4, 2) := by decide +kernel
theorem d_Rows_filterAll_29 : decode prog_9_method_10_code 29 = .ok (.aload_n 2, 1) := by decide +kernel
theorem d_Rows_filterAll_30 : decode prog_9_method_10_code 30 = .ok (.getfield 25, 3) := by decide +kernel
theorem d_Rows_filterAll_33 : decode prog_9_method_10_code 33 = .ok (.iload_n 3, 1) := by decide +kernel
theorem d_Rows_filterAll_34 : decode prog_9_method_10_code 34 = .ok (.iaload, 1) := by decide +kernel
theorem d_Rows_filterAll_35 : decode prog_9_method_10_code 35 = .ok (.iconst 1, 1) := by decide +kernel
theorem d_Rows_filterAll_36 : decode prog_9_method_10_code 36 = .ok (.iadd, 1) := by decide +kernel
theorem d_Rows_filterAll_37 : decode prog_9_method_10_code 37 = .ok (.istore 5, 2) := by decide +kernel
theorem d_Rows_filterAll_39 : decode prog_9_method_10_code 39 = .ok (.aload_n 0, 1) := by decide +kernel
theorem d_Rows_filterAll_40 : decode prog_9_method_10_code 40 = .ok (.getfield 10, 3) := by decide +kernel
theorem d_Rows_filterAll_43 : decode prog_9_method_10_code 43 = .ok (.iload 5, 2) := by decide +kernel
theorem d_Rows_filterAll_45 : decode prog_9_method_10_code 45 = .ok (.iconst 1, 1) := by decide +kernel
theorem d_Rows_filterAll_46 : decode prog_9_method_10_code 46 = .ok (.isub, 1) := by decide +kernel
theorem d_Rows_filterAll_47 : decode prog_9_method_10_code 47 = .ok (.iload 4, 2) := by decide +kernel
theorem d_Rows_filterAll_49 : decode prog_9_method_10_code 49 = .ok (.iastore, 1) := by decide +kernel
theorem d_Rows_filterAll_50 : decode prog_9_method_10_code 50 = .ok (.iconst 0, 1) := by decide +kernel
theorem d_Rows_filterAll_51 : decode prog_9_method_10_code 51 = .ok (.istore 6, 2) := by decide +kernel
theorem d_Rows_filterAll_53 : decode prog_9_method_10_code 53 = .ok (.iload 6, 2) := by decide +kernel
theorem d_Rows_filterAll_55 : decode prog_9_method_10_code 55 = .ok (.aload_n 2, 1) := by decide +kernel
theorem d_Rows_filterAll_56 : decode prog_9_method_10_code 56 = .ok (.getfield 28, 3) := by decide +kernel
theorem d_Rows_filterAll_59 : decode prog_9_method_10_code 59 = .ok (.iload_n 3, 1) := by decide +kernel
theorem d_Rows_filterAll_60 : decode prog_9_method_10_code 60 = .ok (.iaload, 1) := by decide +kernel
theorem d_Rows_filterAll_61 : decode prog_9_method_10_code 61 = .ok (.if_icmp .ge 44, 3) := by decide +kernel
theorem d_Rows_filterAll_64 : decode prog_9_method_10_code 64 = .ok (.aload_n 0, 1) := by decide +kernel
theorem d_Rows_filterAll_65 : decode prog_9_method_10_code 65 = .ok (.getfield 10, 3) := by decide +kernel
theorem d_Rows_filterAll_68 : decode prog_9_method_10_code 68 = .ok (.iload 5, 2) := by decide +kernel
theorem d_Rows_filterAll_70 : decode prog_9_method_10_code 70 = .ok (.iload 6, 2) := by decide +kernel
theorem d_Rows_filterAll_72 : decode prog_9_method_10_code 72 = .ok (.iadd, 1) := by decide +kernel
theorem d_Rows_filterAll_73 : decode prog_9_method_10_code 73 = .ok (.aload_n 0, 1) := by decide +kernel
theorem d_Rows_filterAll_74 : decode prog_9_method_10_code 74 = .ok (.getfield 16, 3) := by decide +kernel
theorem d_Rows_filterAll_77 : decode prog_9_method_10_code 77 = .ok (.iload 5, 2) := by decide +kernel
theorem d_Rows_filterAll_79 : decode prog_9_method_10_code 79 = .ok (.iload 6, 2) := by decide +kernel
theorem d_Rows_filterAll_81 : decode prog_9_method_10_code 81 = .ok (.iadd, 1) := by decide +kernel
theorem d_Rows_filterAll_82 : decode prog_9_method_10_code 82 = .ok (.iaload, 1) := by decide +kernel
theorem d_Rows_filterAll_83 : decode prog_9_method_10_code 83 = .ok (.aload_n 0, 1) := by decide +kernel
theorem d_Rows_filterAll_84 : decode prog_9_method_10_code 84 = .ok (.aload_n 2, 1) := by decide +kernel
theorem d_Rows_filterAll_85 : decode prog_9_method_10_code 85 = .ok (.iload_n 3, 1) := by decide +kernel
theorem d_Rows_filterAll_86 : decode prog_9_method_10_code 86 = .ok (.iload 6, 2) := by decide +kernel
theorem d_Rows_filterAll_88 : decode prog_9_method_10_code 88 = .ok (.iload 4, 2) := by decide +kernel
theorem d_Rows_filterAll_90 : decode prog_9_method_10_code 90 = .ok (.invokevirtual 69, 3) := by decide +kernel
theorem d_Rows_filterAll_93 : decode prog_9_method_10_code 93 = .ok (.isub, 1) := by decide +kernel
theorem d_Rows_filterAll_94 : decode prog_9_method_10_code 94 = .ok (.sipush 255, 3) := by decide +kernel
theorem d_Rows_filterAll_97 : decode prog_9_method_10_code 97 = .ok (.iand, 1) := by decide +kernel
theorem d_Rows_filterAll_98 : decode prog_9_method_10_code 98 = .ok (.iastore, 1) := by decide +kernel
theorem d_Rows_filterAll_99 : decode prog_9_method_10_code 99 = .ok (.iinc 6 1, 3) := by decide +kernel
theorem d_Rows_filterAll_102 : decode prog_9_method_10_code 102 = .ok (.goto (-49), 3) := by decide +kernel
theorem d_Rows_filterAll_105 : decode prog_9_method_10_code 105 = .ok (.iinc 3 1, 3) := by decide +kernel
theorem d_Rows_filterAll_108 : decode prog_9_method_10_code 108 = .ok (.goto (-101), 3) := by decide +kernel
theorem d_Rows_filterAll_111 : decode prog_9_method_10_code 111 = .ok (.return_, 1) := by decide +kernel
set_option maxRecDepth 100000 in
set_option maxHeartbeats 4000000 in
theorem c_Rows_filterAll {l0 : Launch} (hl : l0.stackTraces = false) (n : Nat) (ids : List Nat) {t : Nat} (ht : mm_ok ids t 1 3) {r0 : Nat} (hr0 : mm_ok ids r0 1 10)  (σ : Mm) : kw_C l0 y_Rows_filterAll (Cond.code y_Rows_filterAll prog_9_method_10_code 7 none :: kw_Ts) rm_Rows_filterAll kw_ov ids [] [.ref t, .ref r0] σ (F_Rows_filterAll n t r0 σ) := by
  refine kw_start (L0 := [some (.ref t), some (.ref r0), none, none, none, none, none]) hl (by decide +kernel) (Nat.le_of_ble_eq_true rfl) rfl (fun Γ ad C Ce => ?_)
  unfold F_Rows_filterAll
  refine kw_aload_n C d_Rows_filterAll_0 rfl ?_
  refine kw_getR C fi_Rows_19 rfl rfl hr0 d_Rows_filterAll_1 (fun o1 ho1 => ?_)
  refine kw_astore_n (L' := [some (.ref t), some (.ref r0), some (.ref o1), none, none, none, none]) C d_Rows_filterAll_4 (by decide) rfl ?_
  refine kw_iconst (v := 0) C d_Rows_filterAll_5 (by decide) ?_
  refine kw_istore_n (L' := [some (.ref t), some (.ref r0), some (.ref o1), some (.int 0), none, none, none]) C d_Rows_filterAll_6 (by decide) rfl ?_
  refine kw_wk (kw_l (α := Int32) (pc := 7) (Lj := fun x3 => [some (.ref t), some (.ref r0), some (.ref o1), some (.int x3), none, none, none]) (stj := fun x3 => []) (fun k2 hk2 x3 σ4 => ?_) n 0 σ) ⟨Or.inr rfl, Or.inr rfl, Or.inr rfl, Or.inr rfl, Or.inl rfl, Or.inl rfl, Or.inl rfl, trivial⟩
  refine kw_iload_n C d_Rows_filterAll_7 rfl ?_
  refine kw_aload_n C d_Rows_filterAll_8 rfl ?_
  refine kw_getI C fi_Rows_88 (Or.inl rfl) ho1 d_Rows_filterAll_9 ?_
  refine kw_icmp_ge (tgt := 111) C d_Rows_filterAll_12 (by decide) ?_ ?_
  · exact kw_vret C Ce rfl (by simp) (fun _ _ => rfl) (Nat.le_of_ble_eq_true rfl) (Nat.le_of_ble_eq_true rfl) rfl d_Rows_filterAll_111
  · refine kw_aload_n C d_Rows_filterAll_15 rfl ?_
    refine kw_aload_n C d_Rows_filterAll_16 rfl ?_
    refine kw_iload_n C d_Rows_filterAll_17 rfl ?_
    refine kw_callVv (cl' := 0) (sl' := 0) (As := [.ref r0, .int x3]) C (c_Rows_gather hl n ids ht hr0 x3 σ4) mi_Rows_91 v_Rows_gather ⟨_, _, rfl⟩ ht ⟨Nat.le_of_ble_eq_true rfl, Nat.le_of_ble_eq_true rfl⟩ (Nat.le_of_ble_eq_true rfl) ⟨Nat.le_of_ble_eq_true rfl, Nat.le_of_ble_eq_true rfl⟩ ⟨rfl, rfl⟩ rfl d_Rows_filterAll_18 (fun σ5 => ?_)
    refine kw_aload_n C d_Rows_filterAll_21 rfl ?_
    refine kw_aload_n C d_Rows_filterAll_22 rfl ?_
    refine kw_iload_n C d_Rows_filterAll_23 rfl ?_
    refine kw_callVi (cl' := 0) (sl' := 0) (As := [.ref o1, .int x3]) C (c_Rows_bestFilter hl n ids ht ho1 x3 σ5) mi_Rows_95 v_Rows_bestFilter ⟨_, _, rfl⟩ ht ⟨Nat.le_of_ble_eq_true rfl, Nat.le_of_ble_eq_true rfl⟩ (Nat.le_of_ble_eq_true rfl) ⟨Nat.le_of_ble_eq_true rfl, Nat.le_of_ble_eq_true rfl⟩ ⟨rfl, rfl⟩ rfl d_Rows_filterAll_24 (fun x6 σ7 => ?_)
    refine kw_istore (L' := [some (.ref t), some (.ref r0), some (.ref o1), some (.int x3), some (.int x6), none, none]) C d_Rows_filterAll_27 (by decide) rfl ?_
    refine kw_aload_n C d_Rows_filterAll_29 rfl ?_
    refine kw_getR C fi_Rows_25 rfl rfl ho1 d_Rows_filterAll_30 (fun o8 ho8 => ?_)
    refine kw_iload_n C d_Rows_filterAll_33 rfl ?_
    refine kw_iald C (Or.inl ⟨ho8.1, ho8.2.1⟩) d_Rows_filterAll_34 ?_
    refine kw_iconst (v := 1) C d_Rows_filterAll_35 (by decide) ?_
    refine kw_iadd C d_Rows_filterAll_36 ?_
    refine kw_leti (fun x9 => ?_)
    refine kw_istore (L' := [some (.ref t), some (.ref r0), some (.ref o1), some (.int x3), some (.int x6), some (.int x9), none]) C d_Rows_filterAll_37 (by decide) rfl ?_
    refine kw_aload_n C d_Rows_filterAll_39 rfl ?_
    refine kw_getR C fi_Rows_10 rfl rfl ht d_Rows_filterAll_40 (fun o10 ho10 => ?_)
    refine kw_iload C d_Rows_filterAll_43 rfl ?_
    refine kw_iconst (v := 1) C d_Rows_filterAll_45 (by decide) ?_
    refine kw_isub C d_Rows_filterAll_46 ?_
    refine kw_iload C d_Rows_filterAll_47 rfl ?_
    refine kw_iast C ho10 d_Rows_filterAll_49 (fun σ11 => ?_)
    refine kw_iconst (v := 0) C d_Rows_filterAll_50 (by decide) ?_
    refine kw_istore (L' := [some (.ref t), some (.ref r0), some (.ref o1), some (.int x3), some (.int x6), some (.int x9), some (.int 0)]) C d_Rows_filterAll_51 (by decide) rfl ?_
    refine kw_wk (kw_l (α := Int32) (pc := 53) (Lj := fun x13 => [some (.ref t), some (.ref r0), some (.ref o1), some (.int x3), some (.int x6), some (.int x9), some (.int x13)]) (stj := fun x13 => []) (fun k12 hk12 x13 σ14 => ?_) n 0 σ11) ⟨Or.inr rfl, Or.inr rfl, Or.inr rfl, Or.inr rfl, Or.inr rfl, Or.inr rfl, Or.inr rfl, trivial⟩
    refine kw_iload C d_Rows_filterAll_53 rfl ?_
    refine kw_aload_n C d_Rows_filterAll_55 rfl ?_
    refine kw_getR C fi_Rows_28 rfl rfl ho1 d_Rows_filterAll_56 (fun o15 ho15 => ?_)
    refine kw_iload_n C d_Rows_filterAll_59 rfl ?_
    refine kw_iald C (Or.inl ⟨ho15.1, ho15.2.1⟩) d_Rows_filterAll_60 ?_
    refine kw_icmp_ge (tgt := 105) C d_Rows_filterAll_61 (by decide) ?_ ?_
    · refine kw_iincL (L2 := fun x16 => [some (.ref t), some (.ref r0), some (.ref o1), some (.int x16), some (.int x6), some (.int x9), some (.int x13)]) C d_Rows_filterAll_105 (by decide) rfl (fun _ => rfl) (fun x16 => ?_)
      refine kw_goto (tgt := 7) C d_Rows_filterAll_108 (by decide) ?_
      exact kw_wk (hk2 x16 σ14) ⟨Or.inr rfl, Or.inr rfl, Or.inr rfl, Or.inr rfl, Or.inl rfl, Or.inl rfl, Or.inl rfl, trivial⟩
    · refine kw_aload_n C d_Rows_filterAll_64 rfl ?_
      refine kw_getR C fi_Rows_10 rfl rfl ht d_Rows_filterAll_65 (fun o17 ho17 => ?_)
      refine kw_iload C d_Rows_filterAll_68 rfl ?_
      refine kw_iload C d_Rows_filterAll_70 rfl ?_
      refine kw_iadd C d_Rows_filterAll_72 ?_
      refine kw_aload_n C d_Rows_filterAll_73 rfl ?_
      refine kw_getR C fi_Rows_16 rfl rfl ht d_Rows_filterAll_74 (fun o18 ho18 => ?_)
      refine kw_iload C d_Rows_filterAll_77 rfl ?_
      refine kw_iload C d_Rows_filterAll_79 rfl ?_
      refine kw_iadd C d_Rows_filterAll_81 ?_
      refine kw_leti (fun x19 => ?_)
      refine kw_iald C (Or.inl ⟨ho18.1, ho18.2.1⟩) d_Rows_filterAll_82 ?_
      refine kw_aload_n C d_Rows_filterAll_83 rfl ?_
      refine kw_aload_n C d_Rows_filterAll_84 rfl ?_
      refine kw_iload_n C d_Rows_filterAll_85 rfl ?_
      refine kw_iload C d_Rows_filterAll_86 rfl ?_
      refine kw_iload C d_Rows_filterAll_88 rfl ?_
      refine kw_callVi (cl' := 0) (sl' := 0) (As := [.ref o1, .int x3, .int x13, .int x6]) C (c_Rows_guess hl n ids ht ho1 x3 x13 x6 σ14) mi_Rows_69 v_Rows_guess ⟨_, _, rfl⟩ ht ⟨Nat.le_of_ble_eq_true rfl, Nat.le_of_ble_eq_true rfl⟩ (Nat.le_of_ble_eq_true rfl) ⟨Nat.le_of_ble_eq_true rfl, Nat.le_of_ble_eq_true rfl⟩ ⟨rfl, rfl⟩ rfl d_Rows_filterAll_90 (fun x20 σ21 => ?_)
      refine kw_isub C d_Rows_filterAll_93 ?_
      refine kw_sipush (v := 255) C d_Rows_filterAll_94 (by decide) ?_
      refine kw_iand C d_Rows_filterAll_97 ?_
      refine kw_iast C ho17 d_Rows_filterAll_98 (fun σ22 => ?_)
      refine kw_iincL (L2 := fun x23 => [some (.ref t), some (.ref r0), some (.ref o1), some (.int x3), some (.int x6), some (.int x9), some (.int x23)]) C d_Rows_filterAll_99 (by decide) rfl (fun _ => rfl) (fun x23 => ?_)
      refine kw_goto (tgt := 53) C d_Rows_filterAll_102 (by decide) ?_
      exact kw_wk (hk12 x23 σ22) ⟨Or.inr rfl, Or.inr rfl, Or.inr rfl, Or.inr rfl, Or.inr rfl, Or.inr rfl, Or.inr rfl, trivial⟩
/-! Packer_addBits -/
def rm_Packer_addBits : Room := { frames := 1, cells := 0, slots := 0, locals := 21 }
def F_Packer_addBits (n : Nat) (t : Nat) (a0 : Int32) (a1 : Int32) (σ : Mm) : Option (Mm) :=
kf_let (pS σ (64 * t + 5) ((gS σ (64 * t + 5)) ||| (a0 <<< ((gS σ (64 * t + 6)) &&& 31)))) fun σ1 =>
kf_let (pS σ1 (64 * t + 6) ((gS σ1 (64 * t + 6)) + a1)) fun σ2 =>
kf_nz 8 <|
kf_let ((gS σ2 (64 * t + 6)) / 8 : Int32) fun x3 =>
kf_l (α := Int32) n (fun k4 x5 σ6 =>
if x5 ≤ 0 then (
some σ6) else (
Option.bind (gR σ6 (64 * t + 0)) fun o7 =>
Option.bind (F_Tape_add n o7 (gS σ6 (64 * t + 5)) σ6) fun σ8 =>
kf_let (pS σ8 (64 * t + 5) (((gS σ8 (64 * t + 5)).toUInt32 >>> ((8 : Int32).toUInt32 &&& Int32.toUInt32 31)).toInt32)) fun σ9 =>
kf_let (pS σ9 (64 * t + 6) ((gS σ9 (64 * t + 6)) - 8)) fun σ10 =>
kf_let (x5 + Int32.ofInt (-1)) fun x11 =>
k4 x11 σ10)) x3 σ2
theorem d_Packer_addBits_0 : decode prog_6_method_12_code 0 = .ok (.aload_n 0, 1) := by decide +kernel
theorem d_Packer_addBits_1 : decode prog_6_method_12_code 1 = .ok (.dup, 1) := by decide +kernel
theorem d_Packer_addBits_2 : decode prog_6_method_12_code 2 = .ok (.getfield 45, 3) := by decide +kernel
theorem d_Packer_addBits_5 : decode prog_6_method_12_code 5 = .ok (.iload_n 1, 1) := by decide +kernel
theorem d_Packer_addBits_6 : decode prog_6_method_12_code 6 = .ok (.aload_n 0, 1) := by decide +kernel
theorem d_Packer_addBits_7 : decode prog_6_method_12_code 7 = .ok (.getfield 48, 3) := by decide +kernel
theorem d_Packer_addBits_10 : decode prog_6_method_12_code 10 = .ok (.ishl, 1) := by decide +kernel
theorem d_Packer_addBits_11 : decode prog_6_method_12_code 11 = .ok (.ior, 1) := by decide +kernel
theorem d_Packer_addBits_12 : decode prog_6_method_12_code 12 = .ok (.putfield 45, 3) := by decide +kernel
theorem d_Packer_addBits_15 : decode prog_6_method_12_code 15 = .ok (.aload_n 0, 1) := by decide +kernel
theorem d_Packer_addBits_16 : decode prog_6_method_12_code 16 = .ok (.dup, 1) := by decide +kernel
theorem d_Packer_addBits_17 : decode prog_6_method_12_code 17 = .ok (.getfield 48, 3) := by decide +kernel
theorem d_Packer_addBits_20 : decode prog_6_method_12_code 20 = .ok (.iload_n 2, 1) := by decide +kernel
theorem d_Packer_addBits_21 : decode prog_6_method_12_code 21 = .ok (.iadd, 1) := by decide +kernel
theorem d_Packer_addBits_22 : decode prog_6_method_12_code 22 = .ok (.putfield 48, 3) := by decide +kernel
theorem d_Packer_addBits_25 : decode prog_6_method_12_code 25 = .ok (.aload_n 0, 1) := by decide +kernel
theorem d_Packer_addBits_26 : decode prog_6_method_12_code 26 = .ok (.getfield 48, 3) := by decide +kernel
theorem d_Packer_addBits_29 : decode prog_6_method_12_code 29 = .ok (.bipush 8, 2) := by decide +kernel
theorem d_Packer_addBits_31 : decode prog_6_method_12_code 31 = .ok (.idiv, 1) := by decide +kernel
theorem d_Packer_addBits_32 : decode prog_6_method_12_code 32 = .ok (.istore_n 3, 1) := by decide +kernel
theorem d_Packer_addBits_33 : decode prog_6_method_12_code 33 = .ok (.iload_n 3, 1) := by decide +kernel
theorem d_Packer_addBits_34 : decode prog_6_method_12_code 34 = .ok (.ifCond .le 42, 3) := by decide +kernel
theorem d_Packer_addBits_37 : decode prog_6_method_12_code 37 = .ok (.aload_n 0, 1) := by decide +kernel
theorem d_Packer_addBits_38 : decode prog_6_method_12_code 38 = .ok (.getfield 21, 3) := by decide +kernel
theorem d_Packer_addBits_41 : decode prog_6_method_12_code 41 = .ok (.aload_n 0, 1) := by decide +kernel
theorem d_Packer_addBits_42 : decode prog_6_method_12_code 42 = .ok (.getfield 45, 3) := by decide +kernel
theorem d_Packer_addBits_45 : decode prog_6_method_12_code 45 = .ok (.invokevirtual 39, 3) := by decide +kernel
theorem d_Packer_addBits_48 : decode prog_6_method_12_code 48 = .ok (.aload_n 0, 1) := by decide +kernel
theorem d_Packer_addBits_49 : decode prog_6_method_12_code 49 = .ok (.dup, 1) := by decide +kernel
theorem d_Packer_addBits_50 : decode prog_6_method_12_code 50 = .ok (.getfield 45, 3) := by decide +kernel
theorem d_Packer_addBits_53 : decode prog_6_method_12_code 53 = .ok (.bipush 8, 2) := by decide +kernel
theorem d_Packer_addBits_55 : decode prog_6_method_12_code 55 = .ok (.iushr, 1) := by decide +kernel
theorem d_Packer_addBits_56 : decode prog_6_method_12_code 56 = .ok (.putfield 45, 3) := by decide +kernel
theorem d_Packer_addBits_59 : decode prog_6_method_12_code 59 = .ok (.aload_n 0, 1) := by decide +kernel
theorem d_Packer_addBits_60 : decode prog_6_method_12_code 60 = .ok (.dup, 1) := by decide +kernel
theorem d_Packer_addBits_61 : decode prog_6_method_12_code 61 = .ok (.getfield 48, 3) := by decide +kernel
theorem d_Packer_addBits_64 : decode prog_6_method_12_code 64 = .ok (.bipush 8, 2) := by decide +kernel
theorem d_Packer_addBits_66 : decode prog_6_method_12_code 66 = .ok (.isub, 1) := by decide +kernel
theorem d_Packer_addBits_67 : decode prog_6_method_12_code 67 = .ok (.putfield 48, 3) := by decide +kernel
theorem d_Packer_addBits_70 : decode prog_6_method_12_code 70 = .ok (.iinc 3 (-1), 3) := by decide +kernel
theorem d_Packer_addBits_73 : decode prog_6_method_12_code 73 = .ok (.goto (-40), 3) := by decide +kernel
theorem d_Packer_addBits_76 : decode prog_6_method_12_code 76 = .ok (.return_, 1) := by decide +kernel
set_option maxRecDepth 100000 in
set_option maxHeartbeats 4000000 in
theorem c_Packer_addBits {l0 : Launch} (hl : l0.stackTraces = false) (n : Nat) (ids : List Nat) {t : Nat} (ht : mm_ok ids t 1 9) (a0 : Int32) (a1 : Int32) (σ : Mm) : kw_C l0 y_Packer_addBits (Cond.code y_Packer_addBits prog_6_method_12_code 4 none :: kw_Ts) rm_Packer_addBits kw_ov ids [] [.ref t, .int a0, .int a1] σ (F_Packer_addBits n t a0 a1 σ) := by
  refine kw_start (L0 := [some (.ref t), some (.int a0), some (.int a1), none]) hl (by decide +kernel) (Nat.le_of_ble_eq_true rfl) rfl (fun Γ ad C Ce => ?_)
  unfold F_Packer_addBits
  refine kw_aload_n C d_Packer_addBits_0 rfl ?_
  refine kw_dup C d_Packer_addBits_1 rfl ?_
  refine kw_getI C fi_Packer_45 (Or.inl rfl) ht d_Packer_addBits_2 ?_
  refine kw_iload_n C d_Packer_addBits_5 rfl ?_
  refine kw_aload_n C d_Packer_addBits_6 rfl ?_
  refine kw_getI C fi_Packer_48 (Or.inl rfl) ht d_Packer_addBits_7 ?_
  refine kw_ishl C d_Packer_addBits_10 ?_
  refine kw_ior C d_Packer_addBits_11 ?_
  refine kw_putI C fi_Packer_45 rfl ht d_Packer_addBits_12 (fun σ1 => ?_)
  refine kw_aload_n C d_Packer_addBits_15 rfl ?_
  refine kw_dup C d_Packer_addBits_16 rfl ?_
  refine kw_getI C fi_Packer_48 (Or.inl rfl) ht d_Packer_addBits_17 ?_
  refine kw_iload_n C d_Packer_addBits_20 rfl ?_
  refine kw_iadd C d_Packer_addBits_21 ?_
  refine kw_putI C fi_Packer_48 rfl ht d_Packer_addBits_22 (fun σ2 => ?_)
  refine kw_aload_n C d_Packer_addBits_25 rfl ?_
  refine kw_getI C fi_Packer_48 (Or.inl rfl) ht d_Packer_addBits_26 ?_
  refine kw_bipush (v := 8) C d_Packer_addBits_29 (by decide) ?_
  refine kw_idiv C d_Packer_addBits_31 ?_
  refine kw_leti (fun x3 => ?_)
  refine kw_istore_n (L' := [some (.ref t), some (.int a0), some (.int a1), some (.int x3)]) C d_Packer_addBits_32 (by decide) rfl ?_
  refine kw_wk (kw_l (α := Int32) (pc := 33) (Lj := fun x5 => [some (.ref t), none, none, some (.int x5)]) (stj := fun x5 => []) (fun k4 hk4 x5 σ6 => ?_) n x3 σ2) ⟨Or.inr rfl, Or.inl rfl, Or.inl rfl, Or.inr rfl, trivial⟩
  refine kw_iload_n C d_Packer_addBits_33 rfl ?_
  refine kw_if_le (tgt := 76) C d_Packer_addBits_34 (by decide) ?_ ?_
  · exact kw_vret C Ce rfl (by simp) (fun _ _ => rfl) (Nat.le_of_ble_eq_true rfl) (Nat.le_of_ble_eq_true rfl) rfl d_Packer_addBits_76
  · refine kw_aload_n C d_Packer_addBits_37 rfl ?_
    refine kw_getR C fi_Packer_21 rfl rfl ht d_Packer_addBits_38 (fun o7 ho7 => ?_)
    refine kw_aload_n C d_Packer_addBits_41 rfl ?_
    refine kw_getI C fi_Packer_45 (Or.inl rfl) ht d_Packer_addBits_42 ?_
    refine kw_callVv (cl' := 0) (sl' := 0) (As := [.int (gS σ6 (64 * t + 5))]) C (c_Tape_add hl n ids ho7 (gS σ6 (64 * t + 5)) σ6) mi_Packer_39 v_Tape_add ⟨_, _, rfl⟩ ho7 ⟨Nat.le_of_ble_eq_true rfl, Nat.le_of_ble_eq_true rfl⟩ (Nat.le_of_ble_eq_true rfl) ⟨Nat.le_of_ble_eq_true rfl, Nat.le_of_ble_eq_true rfl⟩ ⟨rfl, rfl⟩ rfl d_Packer_addBits_45 (fun σ8 => ?_)
    refine kw_aload_n C d_Packer_addBits_48 rfl ?_
    refine kw_dup C d_Packer_addBits_49 rfl ?_
    refine kw_getI C fi_Packer_45 (Or.inl rfl) ht d_Packer_addBits_50 ?_
    refine kw_bipush (v := 8) C d_Packer_addBits_53 (by decide) ?_
    refine kw_iushr C d_Packer_addBits_55 ?_
    refine kw_putI C fi_Packer_45 rfl ht d_Packer_addBits_56 (fun σ9 => ?_)
    refine kw_aload_n C d_Packer_addBits_59 rfl ?_
    refine kw_dup C d_Packer_addBits_60 rfl ?_
    refine kw_getI C fi_Packer_48 (Or.inl rfl) ht d_Packer_addBits_61 ?_
    refine kw_bipush (v := 8) C d_Packer_addBits_64 (by decide) ?_
    refine kw_isub C d_Packer_addBits_66 ?_
    refine kw_putI C fi_Packer_48 rfl ht d_Packer_addBits_67 (fun σ10 => ?_)
    refine kw_iincL (L2 := fun x11 => [some (.ref t), none, none, some (.int x11)]) C d_Packer_addBits_70 (by decide) rfl (fun _ => rfl) (fun x11 => ?_)
    refine kw_goto (tgt := 33) C d_Packer_addBits_73 (by decide) ?_
    exact kw_wk (hk4 x11 σ10) ⟨Or.inr rfl, Or.inl rfl, Or.inl rfl, Or.inr rfl, trivial⟩
/-! Packer_hashAt -/
def rm_Packer_hashAt : Room := { frames := 0, cells := 0, slots := 0, locals := 0 }
def F_Packer_hashAt (n : Nat) (t : Nat) (a0 : Int32) (σ : Mm) : Option (Int32 × Mm) :=
Option.bind (gR σ (64 * t + 1)) fun o1 =>
kf_in a0 (mm_kd o1).2.2 <|
Option.bind (gR σ (64 * t + 1)) fun o2 =>
kf_let (a0 + 1 : Int32) fun x3 =>
kf_in x3 (mm_kd o2).2.2 <|
Option.bind (gR σ (64 * t + 1)) fun o4 =>
kf_let (a0 + 2 : Int32) fun x5 =>
kf_in x5 (mm_kd o4).2.2 <|
some (((((gB σ o1 a0.toNatClampNeg) <<< (8 &&& 31)) ^^^ ((gB σ o2 x3.toNatClampNeg) <<< (4 &&& 31))) ^^^ (gB σ o4 x5.toNatClampNeg)) &&& 4095, σ)
theorem d_Packer_hashAt_0 : decode prog_6_method_4_code 0 = .ok (.aload_n 0, 1) := by decide +kernel
theorem d_Packer_hashAt_1 : decode prog_6_method_4_code 1 = .ok (.getfield 25, 3) := by decide +kernel
theorem d_Packer_hashAt_4 : decode prog_6_method_4_code 4 = .ok (.iload_n 1, 1) := by decide +kernel
theorem d_Packer_hashAt_5 : decode prog_6_method_4_code 5 = .ok (.iaload, 1) := by decide +kernel
theorem d_Packer_hashAt_6 : decode prog_6_method_4_code 6 = .ok (.bipush 8, 2) := by decide +kernel
theorem d_Packer_hashAt_8 : decode prog_6_method_4_code 8 = .ok (.ishl, 1) := by decide +kernel
theorem d_Packer_hashAt_9 : decode prog_6_method_4_code 9 = .ok (.aload_n 0, 1) := by decide +kernel
theorem d_Packer_hashAt_10 : decode prog_6_method_4_code 10 = .ok (.getfield 25, 3) := by decide +kernel
theorem d_Packer_hashAt_13 : decode prog_6_method_4_code 13 = .ok (.iload_n 1, 1) := by decide +kernel
theorem d_Packer_hashAt_14 : decode prog_6_method_4_code 14 = .ok (.iconst 1, 1) := by decide +kernel
theorem d_Packer_hashAt_15 : decode prog_6_method_4_code 15 = .ok (.iadd, 1) := by decide +kernel
theorem d_Packer_hashAt_16 : decode prog_6_method_4_code 16 = .ok (.iaload, 1) := by decide +kernel
theorem d_Packer_hashAt_17 : decode prog_6_method_4_code 17 = .ok (.iconst 4, 1) := by decide +kernel
theorem d_Packer_hashAt_18 : decode prog_6_method_4_code 18 = .ok (.ishl, 1) := by decide +kernel
theorem d_Packer_hashAt_19 : decode prog_6_method_4_code 19 = .ok (.ixor, 1) := by decide +kernel
theorem d_Packer_hashAt_20 : decode prog_6_method_4_code 20 = .ok (.aload_n 0, 1) := by decide +kernel
theorem d_Packer_hashAt_21 : decode prog_6_method_4_code 21 = .ok (.getfield 25, 3) := by decide +kernel
theorem d_Packer_hashAt_24 : decode prog_6_method_4_code 24 = .ok (.iload_n 1, 1) := by decide +kernel
theorem d_Packer_hashAt_25 : decode prog_6_method_4_code 25 = .ok (.iconst 2, 1) := by decide +kernel
theorem d_Packer_hashAt_26 : decode prog_6_method_4_code 26 = .ok (.iadd, 1) := by decide +kernel
theorem d_Packer_hashAt_27 : decode prog_6_method_4_code 27 = .ok (.iaload, 1) := by decide +kernel
theorem d_Packer_hashAt_28 : decode prog_6_method_4_code 28 = .ok (.ixor, 1) := by decide +kernel
theorem d_Packer_hashAt_29 : decode prog_6_method_4_code 29 = .ok (.sipush 4095, 3) := by decide +kernel
theorem d_Packer_hashAt_32 : decode prog_6_method_4_code 32 = .ok (.iand, 1) := by decide +kernel
theorem d_Packer_hashAt_33 : decode prog_6_method_4_code 33 = .ok (.ireturn, 1) := by decide +kernel
set_option maxRecDepth 100000 in
set_option maxHeartbeats 4000000 in
theorem c_Packer_hashAt {l0 : Launch} (hl : l0.stackTraces = false) (n : Nat) (ids : List Nat) {t : Nat} (ht : mm_ok ids t 1 9) (a0 : Int32) (σ : Mm) : kw_C l0 y_Packer_hashAt (Cond.code y_Packer_hashAt prog_6_method_4_code 2 (some .int) :: kw_Ts) rm_Packer_hashAt kw_oi ids [] [.ref t, .int a0] σ (F_Packer_hashAt n t a0 σ) := by
  refine kw_start (L0 := [some (.ref t), some (.int a0)]) hl (by decide +kernel) (Nat.le_of_ble_eq_true rfl) rfl (fun Γ ad C Ce => ?_)
  unfold F_Packer_hashAt
  refine kw_aload_n C d_Packer_hashAt_0 rfl ?_
  refine kw_getR C fi_Packer_25 rfl rfl ht d_Packer_hashAt_1 (fun o1 ho1 => ?_)
  refine kw_iload_n C d_Packer_hashAt_4 rfl ?_
  refine kw_iald C (Or.inl ⟨ho1.1, ho1.2.1⟩) d_Packer_hashAt_5 ?_
  refine kw_bipush (v := 8) C d_Packer_hashAt_6 (by decide) ?_
  refine kw_ishl C d_Packer_hashAt_8 ?_
  refine kw_aload_n C d_Packer_hashAt_9 rfl ?_
  refine kw_getR C fi_Packer_25 rfl rfl ht d_Packer_hashAt_10 (fun o2 ho2 => ?_)
  refine kw_iload_n C d_Packer_hashAt_13 rfl ?_
  refine kw_iconst (v := 1) C d_Packer_hashAt_14 (by decide) ?_
  refine kw_iadd C d_Packer_hashAt_15 ?_
  refine kw_leti (fun x3 => ?_)
  refine kw_iald C (Or.inl ⟨ho2.1, ho2.2.1⟩) d_Packer_hashAt_16 ?_
  refine kw_iconst (v := 4) C d_Packer_hashAt_17 (by decide) ?_
  refine kw_ishl C d_Packer_hashAt_18 ?_
  refine kw_ixor C d_Packer_hashAt_19 ?_
  refine kw_aload_n C d_Packer_hashAt_20 rfl ?_
  refine kw_getR C fi_Packer_25 rfl rfl ht d_Packer_hashAt_21 (fun o4 ho4 => ?_)
  refine kw_iload_n C d_Packer_hashAt_24 rfl ?_
  refine kw_iconst (v := 2) C d_Packer_hashAt_25 (by decide) ?_
  refine kw_iadd C d_Packer_hashAt_26 ?_
  refine kw_leti (fun x5 => ?_)
  refine kw_iald C (Or.inl ⟨ho4.1, ho4.2.1⟩) d_Packer_hashAt_27 ?_
  refine kw_ixor C d_Packer_hashAt_28 ?_
  refine kw_sipush (v := 4095) C d_Packer_hashAt_29 (by decide) ?_
  refine kw_iand C d_Packer_hashAt_32 ?_
  exact kw_iret C Ce rfl (by simp) (fun _ _ => rfl) (Nat.le_of_ble_eq_true rfl) (Nat.le_of_ble_eq_true rfl) rfl d_Packer_hashAt_33
/-! Packer_alike -/
def rm_Packer_alike : Room := { frames := 0, cells := 0, slots := 0, locals := 0 }
def F_Packer_alike (n : Nat) (t : Nat) (a0 : Int32) (a1 : Int32) (a2 : Int32) (σ : Mm) : Option (Int32 × Mm) :=
kf_l (α := Int32) n (fun k1 x2 σ3 =>
kf_j (α := Unit) (fun x5 σ6 =>
some (x2, σ6)) fun k4 =>
if a2 ≤ x2 then (
k4 () σ3) else (
Option.bind (gR σ3 (64 * t + 1)) fun o7 =>
kf_let (a0 + x2 : Int32) fun x8 =>
kf_in x8 (mm_kd o7).2.2 <|
Option.bind (gR σ3 (64 * t + 1)) fun o9 =>
kf_let (a1 + x2 : Int32) fun x10 =>
kf_in x10 (mm_kd o9).2.2 <|
if (gB σ3 o7 x8.toNatClampNeg) = (gB σ3 o9 x10.toNatClampNeg) then (
kf_let (x2 + Int32.ofInt 1) fun x11 =>
k1 x11 σ3) else (
k4 () σ3))) 0 σ
theorem d_Packer_alike_0 : decode prog_6_method_7_code 0 = .ok (.iconst 0, 1) := by decide +kernel
theorem d_Packer_alike_1 : decode prog_6_method_7_code 1 = .ok (.istore 4, 2) := by decide +kernel
theorem d_Packer_alike_3 : decode prog_6_method_7_code 3 = .ok (.iload 4, 2) := by decide +kernel
theorem d_Packer_alike_5 : decode prog_6_method_7_code 5 = .ok (.iload_n 3, 1) := by decide +kernel
theorem d_Packer_alike_6 : decode prog_6_method_7_code 6 = .ok (.if_icmp .ge 30, 3) := by decide +kernel
theorem d_Packer_alike_9 : decode prog_6_method_7_code 9 = .ok (.aload_n 0, 1) := by decide +kernel
theorem d_Packer_alike_10 : decode prog_6_method_7_code 10 = .ok (.getfield 25, 3) := by decide +kernel
theorem d_Packer_alike_13 : decode prog_6_method_7_code 13 = .ok (.iload_n 1, 1) := by decide +kernel
theorem d_Packer_alike_14 : decode prog_6_method_7_code 14 = .ok (.iload 4, 2) := by decide +kernel
theorem d_Packer_alike_16 : decode prog_6_method_7_code 16 = .ok (.iadd, 1) := by decide +kernel
theorem d_Packer_alike_17 : decode prog_6_method_7_code 17 = .ok (.iaload, 1) := by decide +kernel
theorem d_Packer_alike_18 : decode prog_6_method_7_code 18 = .ok (.aload_n 0, 1) := by decide +kernel
theorem d_Packer_alike_19 : decode prog_6_method_7_code 19 = .ok (.getfield 25, 3) := by decide +kernel
theorem d_Packer_alike_22 : decode prog_6_method_7_code 22 = .ok (.iload_n 2, 1) := by decide +kernel
theorem d_Packer_alike_23 : decode prog_6_method_7_code 23 = .ok (.iload 4, 2) := by decide +kernel
theorem d_Packer_alike_25 : decode prog_6_method_7_code 25 = .ok (.iadd, 1) := by decide +kernel
theorem d_Packer_alike_26 : decode prog_6_method_7_code 26 = .ok (.iaload, 1) := by decide +kernel
theorem d_Packer_alike_27 : decode prog_6_method_7_code 27 = .ok (.if_icmp .ne 9, 3) := by decide +kernel
theorem d_Packer_alike_30 : decode prog_6_method_7_code 30 = .ok (.iinc 4 1, 3) := by decide +kernel
theorem d_Packer_alike_33 : decode prog_6_method_7_code 33 = .ok (.goto (-30), 3) := by decide +kernel
theorem d_Packer_alike_36 : decode prog_6_method_7_code 36 = .ok (.iload 4, 2) := by decide +kernel
theorem d_Packer_alike_38 : decode prog_6_method_7_code 38 = .ok (.ireturn, 1) := by decide +kernel
set_option maxRecDepth 100000 in
set_option maxHeartbeats 4000000 in
theorem c_Packer_alike {l0 : Launch} (hl : l0.stackTraces = false) (n : Nat) (ids : List Nat) {t : Nat} (ht : mm_ok ids t 1 9) (a0 : Int32) (a1 : Int32) (a2 : Int32) (σ : Mm) : kw_C l0 y_Packer_alike (Cond.code y_Packer_alike prog_6_method_7_code 5 (some .int) :: kw_Ts) rm_Packer_alike kw_oi ids [] [.ref t, .int a0, .int a1, .int a2] σ (F_Packer_alike n t a0 a1 a2 σ) := by
  refine kw_start (L0 := [some (.ref t), some (.int a0), some (.int a1), some (.int a2), none]) hl (by decide +kernel) (Nat.le_of_ble_eq_true rfl) rfl (fun Γ ad C Ce => ?_)
  unfold F_Packer_alike
  refine kw_iconst (v := 0) C d_Packer_alike_0 (by decide) ?_
  refine kw_istore (L' := [some (.ref t), some (.int a0), some (.int a1), some (.int a2), some (.int 0)]) C d_Packer_alike_1 (by decide) rfl ?_
  refine kw_wk (kw_l (α := Int32) (pc := 3) (Lj := fun x2 => [some (.ref t), some (.int a0), some (.int a1), some (.int a2), some (.int x2)]) (stj := fun x2 => []) (fun k1 hk1 x2 σ3 => ?_) n 0 σ) ⟨Or.inr rfl, Or.inr rfl, Or.inr rfl, Or.inr rfl, Or.inr rfl, trivial⟩
  refine kw_iload C d_Packer_alike_3 rfl ?_
  refine kw_iload_n C d_Packer_alike_5 rfl ?_
  refine kw_j (α := Unit) (pcj := 36) (Lj := fun x5 => [none, none, none, none, some (.int x2)]) (stj := fun x5 => []) (fun x5 σ6 => ?_) (fun k4 hk4 => ?_)
  · refine kw_iload C d_Packer_alike_36 rfl ?_
    exact kw_iret C Ce rfl (by simp) (fun _ _ => rfl) (Nat.le_of_ble_eq_true rfl) (Nat.le_of_ble_eq_true rfl) rfl d_Packer_alike_38
  · refine kw_icmp_ge (tgt := 36) C d_Packer_alike_6 (by decide) ?_ ?_
    · exact kw_wk (hk4 () σ3) ⟨Or.inl rfl, Or.inl rfl, Or.inl rfl, Or.inl rfl, Or.inr rfl, trivial⟩
    · refine kw_aload_n C d_Packer_alike_9 rfl ?_
      refine kw_getR C fi_Packer_25 rfl rfl ht d_Packer_alike_10 (fun o7 ho7 => ?_)
      refine kw_iload_n C d_Packer_alike_13 rfl ?_
      refine kw_iload C d_Packer_alike_14 rfl ?_
      refine kw_iadd C d_Packer_alike_16 ?_
      refine kw_leti (fun x8 => ?_)
      refine kw_iald C (Or.inl ⟨ho7.1, ho7.2.1⟩) d_Packer_alike_17 ?_
      refine kw_aload_n C d_Packer_alike_18 rfl ?_
      refine kw_getR C fi_Packer_25 rfl rfl ht d_Packer_alike_19 (fun o9 ho9 => ?_)
      refine kw_iload_n C d_Packer_alike_22 rfl ?_
      refine kw_iload C d_Packer_alike_23 rfl ?_
      refine kw_iadd C d_Packer_alike_25 ?_
      refine kw_leti (fun x10 => ?_)
      refine kw_iald C (Or.inl ⟨ho9.1, ho9.2.1⟩) d_Packer_alike_26 ?_
      refine kw_icmp_ne (tgt := 36) C d_Packer_alike_27 (by decide) ?_ ?_
      · exact kw_wk (hk4 () σ3) ⟨Or.inl rfl, Or.inl rfl, Or.inl rfl, Or.inl rfl, Or.inr rfl, trivial⟩
      · refine kw_iincL (L2 := fun x11 => [some (.ref t), some (.int a0), some (.int a1), some (.int a2), some (.int x11)]) C d_Packer_alike_30 (by decide) rfl (fun _ => rfl) (fun x11 => ?_)
        refine kw_goto (tgt := 3) C d_Packer_alike_33 (by decide) ?_
        exact kw_wk (hk1 x11 σ3) ⟨Or.inr rfl, Or.inr rfl, Or.inr rfl, Or.inr rfl, Or.inr rfl, trivial⟩
/-! Packer_findCopy -/
def rm_Packer_findCopy : Room := { frames := 1, cells := 0, slots := 0, locals := 24 }
def F_Packer_findCopy (n : Nat) (t : Nat) (a0 : Int32) (σ : Mm) : Option (Mm) :=
kf_let (pS σ (64 * t + 7) 0) fun σ1 =>
kf_let (if ((gS σ1 (64 * t + 4)) - a0) < (258 : Int32) then ((gS σ1 (64 * t + 4)) - a0) else (258 : Int32) : Int32) fun x2 =>
if 3 ≤ x2 then (
Option.bind (gR σ1 (64 * t + 2)) fun o3 =>
kf_c2 (F_Packer_hashAt n t a0 σ1) fun x4 σ5 =>
kf_in x4 (mm_kd o3).2.2 <|
kf_let (gB σ5 o3 x4.toNatClampNeg : Int32) fun x6 =>
kf_let (if (0 : Int32) < (a0 - 32768) then (a0 - 32768) else (0 : Int32) : Int32) fun x7 =>
kf_l (α := Int32 × Int32) n (fun k8 x9 σ10 =>
kf_j (α := Unit) (fun x12 σ13 =>
some σ13) fun k11 =>
if a0 ≤ x9.2 then (
k11 () σ10) else (
if x9.1 < x7 then (
k11 () σ10) else (
if x2 ≤ (gS σ10 (64 * t + 7)) then (
k11 () σ10) else (
Option.bind (gR σ10 (64 * t + 1)) fun o14 =>
kf_let (x9.1 + (gS σ10 (64 * t + 7)) : Int32) fun x15 =>
kf_in x15 (mm_kd o14).2.2 <|
Option.bind (gR σ10 (64 * t + 1)) fun o16 =>
kf_let (a0 + (gS σ10 (64 * t + 7)) : Int32) fun x17 =>
kf_in x17 (mm_kd o16).2.2 <|
kf_j (α := Unit) (fun x19 σ20 =>
Option.bind (gR σ20 (64 * t + 3)) fun o21 =>
kf_in x9.1 (mm_kd o21).2.2 <|
kf_let (gB σ20 o21 x9.1.toNatClampNeg : Int32) fun x22 =>
kf_let (x9.2 + Int32.ofInt 1) fun x23 =>
k8 (x22, x23) σ20) fun k18 =>
if (gB σ10 o14 x15.toNatClampNeg) = (gB σ10 o16 x17.toNatClampNeg) then (
kf_c2 (F_Packer_alike n t x9.1 a0 x2 σ10) fun x24 σ25 =>
if x24 ≤ (gS σ25 (64 * t + 7)) then (
k18 () σ25) else (
kf_let (pS σ25 (64 * t + 7) x24) fun σ26 =>
kf_let (pS σ26 (64 * t + 8) (a0 - x9.1)) fun σ27 =>
k18 () σ27)) else (
k18 () σ10))))) (x6, 0) σ5) else (
some σ1)
theorem d_Packer_findCopy_0 : decode prog_6_method_6_code 0 = .ok (.aload_n 0, 1) := by decide +kernel
theorem d_Packer_findCopy_1 : decode prog_6_method_6_code 1 = .ok (.iconst 0, 1) := by decide +kernel
theorem d_Packer_findCopy_2 : decode prog_6_method_6_code 2 = .ok (.putfield 64, 3) := by decide +kernel
theorem d_Packer_findCopy_5 : decode prog_6_method_6_code 5 = .ok (.sipush 258, 3) := by decide +kernel
theorem d_Packer_findCopy_8 : decode prog_6_method_6_code 8 = .ok (.aload_n 0, 1) := by decide +kernel
theorem d_Packer_findCopy_9 : decode prog_6_method_6_code 9 = .ok (.getfield 28, 3) := by decide +kernel
theorem d_Packer_findCopy_12 : decode prog_6_method_6_code 12 = .ok (.iload_n 1, 1) := by decide +kernel
theorem d_Packer_findCopy_13 : decode prog_6_method_6_code 13 = .ok (.isub, 1) := by decide +kernel
theorem d_Packer_findCopy_14 : decode prog_6_method_6_code 14 = .ok (.invokestatic 33, 3) := by decide +kernel
theorem d_Packer_findCopy_17 : decode prog_6_method_6_code 17 = .ok (.istore_n 2, 1) := by decide +kernel
theorem d_Packer_findCopy_18 : decode prog_6_method_6_code 18 = .ok (.iload_n 2, 1) := by decide +kernel
theorem d_Packer_findCopy_19 : decode prog_6_method_6_code 19 = .ok (.iconst 3, 1) := by decide +kernel
theorem d_Packer_findCopy_20 : decode prog_6_method_6_code 20 = .ok (.if_icmp .ge 4, 3) := by decide +kernel
theorem d_Packer_findCopy_23 : decode prog_6_method_6_code 23 = .ok (.return_, 1) := by decide +kernel
theorem d_Packer_findCopy_24 : decode prog_6_method_6_code 24 = .ok (.aload_n 0, 1) := by decide +kernel
theorem d_Packer_findCopy_25 : decode prog_6_method_6_code 25 = .ok (.getfield 11, 3) := by decide +kernel
theorem d_Packer_findCopy_28 : decode prog_6_method_6_code 28 = .ok (.aload_n 0, 1) := by decide +kernel
theorem d_Packer_findCopy_29 : decode prog_6_method_6_code 29 = .ok (.iload_n 1, 1) := by decide +kernel
theorem d_Packer_findCopy_30 : decode prog_6_method_6_code 30 = .ok (.invokevirtual 78, 3) := by decide +kernel
theorem d_Packer_findCopy_33 : decode prog_6_method_6_code 33 = .ok (.iaload, 1) := by decide +kernel
theorem d_Packer_findCopy_34 : decode prog_6_method_6_code 34 = .ok (.istore_n 3, 1) := by decide +kernel
theorem d_Packer_findCopy_35 : decode prog_6_method_6_code 35 = .ok (.iconst 0, 1) := by decide +kernel
theorem d_Packer_findCopy_36 : decode prog_6_method_6_code 36 = .ok (.iload_n 1, 1) := by decide +kernel
theorem d_Packer_findCopy_37 : decode prog_6_method_6_code 37 = .ok (.ldc 82, 2) := by decide +kernel
theorem d_Packer_findCopy_39 : decode prog_6_method_6_code 39 = .ok (.isub, 1) := by decide +kernel
theorem d_Packer_findCopy_40 : decode prog_6_method_6_code 40 = .ok (.invokestatic 83, 3) := by decide +kernel
theorem d_Packer_findCopy_43 : decode prog_6_method_6_code 43 = .ok (.istore 4, 2) := by decide +kernel
theorem d_Packer_findCopy_45 : decode prog_6_method_6_code 45 = .ok (.iconst 0, 1) := by decide +kernel
theorem d_Packer_findCopy_46 : decode prog_6_method_6_code 46 = .ok (.istore 5, 2) := by decide +kernel
theorem d_Packer_findCopy_48 : decode prog_6_method_6_code 48 = .ok (.iload 5, 2) := by decide +kernel
theorem d_Packer_findCopy_50 : decode prog_6_method_6_code 50 = .ok (.iload_n 1, 1) := by decide +kernel
theorem d_Packer_findCopy_51 : decode prog_6_method_6_code 51 = .ok (.if_icmp .ge 86, 3) := by decide +kernel
theorem d_Packer_findCopy_54 : decode prog_6_method_6_code 54 = .ok (.iload_n 3, 1) := by decide +kernel
theorem d_Packer_findCopy_55 : decode prog_6_method_6_code 55 = .ok (.iload 4, 2) := by decide +kernel
theorem d_Packer_findCopy_57 : decode prog_6_method_6_code 57 = .ok (.if_icmp .lt 80, 3) := by decide +kernel
theorem d_Packer_findCopy_60 : decode prog_6_method_6_code 60 = .ok (.aload_n 0, 1) := by decide +kernel
theorem d_Packer_findCopy_61 : decode prog_6_method_6_code 61 = .ok (.getfield 64, 3) := by decide +kernel
theorem d_Packer_findCopy_64 : decode prog_6_method_6_code 64 = .ok (.iload_n 2, 1) := by decide +kernel
theorem d_Packer_findCopy_65 : decode prog_6_method_6_code 65 = .ok (.if_icmp .ge 72, 3) := by decide +kernel
theorem d_Packer_findCopy_68 : decode prog_6_method_6_code 68 = .ok (.aload_n 0, 1) := by decide +kernel
theorem d_Packer_findCopy_69 : decode prog_6_method_6_code 69 = .ok (.getfield 25, 3) := by decide +kernel
theorem d_Packer_findCopy_72 : decode prog_6_method_6_code 72 = .ok (.iload_n 3, 1) := by decide +kernel
theorem d_Packer_findCopy_73 : decode prog_6_method_6_code 73 = .ok (.aload_n 0, 1) := by decide +kernel
theorem d_Packer_findCopy_74 : decode prog_6_method_6_code 74 = .ok (.getfield 64, 3) := by decide +kernel
theorem d_Packer_findCopy_77 : decode prog_6_method_6_code 77 = .ok (.iadd, 1) := by decide +kernel
theorem d_Packer_findCopy_78 : decode prog_6_method_6_code 78 = .ok (.iaload, 1) := by decide +kernel
theorem d_Packer_findCopy_79 : decode prog_6_method_6_code 79 = .ok (.aload_n 0, 1) := by decide +kernel
theorem d_Packer_findCopy_80 : decode prog_6_method_6_code 80 = .ok (.getfield 25, 3) := by decide +kernel
theorem d_Packer_findCopy_83 : decode prog_6_method_6_code 83 = .ok (.iload_n 1, 1) := by decide +kernel
theorem d_Packer_findCopy_84 : decode prog_6_method_6_code 84 = .ok (.aload_n 0, 1) := by decide +kernel
theorem d_Packer_findCopy_85 : decode prog_6_method_6_code 85 = .ok (.getfield 64, 3) := by decide +kernel
theorem d_Packer_findCopy_88 : decode prog_6_method_6_code 88 = .ok (.iadd, 1) := by decide +kernel
theorem d_Packer_findCopy_89 : decode prog_6_method_6_code 89 = .ok (.iaload, 1) := by decide +kernel
theorem d_Packer_findCopy_90 : decode prog_6_method_6_code 90 = .ok (.if_icmp .ne 34, 3) := by decide +kernel
theorem d_Packer_findCopy_93 : decode prog_6_method_6_code 93 = .ok (.aload_n 0, 1) := by decide +kernel
theorem d_Packer_findCopy_94 : decode prog_6_method_6_code 94 = .ok (.iload_n 3, 1) := by decide +kernel
theorem d_Packer_findCopy_95 : decode prog_6_method_6_code 95 = .ok (.iload_n 1, 1) := by decide +kernel
theorem d_Packer_findCopy_96 : decode prog_6_method_6_code 96 = .ok (.iload_n 2, 1) := by decide +kernel
theorem d_Packer_findCopy_97 : decode prog_6_method_6_code 97 = .ok (.invokevirtual 86, 3) := by decide +kernel
theorem d_Packer_findCopy_100 : decode prog_6_method_6_code 100 = .ok (.istore 6, 2) := by decide +kernel
theorem d_Packer_findCopy_102 : decode prog_6_method_6_code 102 = .ok (.iload 6, 2) := by decide +kernel
theorem d_Packer_findCopy_104 : decode prog_6_method_6_code 104 = .ok (.aload_n 0, 1) := by decide +kernel
theorem d_Packer_findCopy_105 : decode prog_6_method_6_code 105 = .ok (.getfield 64, 3) := by decide +kernel
theorem d_Packer_findCopy_108 : decode prog_6_method_6_code 108 = .ok (.if_icmp .le 16, 3) := by decide +kernel
theorem d_Packer_findCopy_111 : decode prog_6_method_6_code 111 = .ok (.aload_n 0, 1) := by decide +kernel
theorem d_Packer_findCopy_112 : decode prog_6_method_6_code 112 = .ok (.iload 6, 2) := by decide +kernel
theorem d_Packer_findCopy_114 : decode prog_6_method_6_code 114 = .ok (.putfield 64, 3) := by decide +kernel
theorem d_Packer_findCopy_117 : decode prog_6_method_6_code 117 = .ok (.aload_n 0, 1) := by decide +kernel
theorem d_Packer_findCopy_118 : decode prog_6_method_6_code 118 = .ok (.iload_n 1, 1) := by decide +kernel
theorem d_Packer_findCopy_119 : decode prog_6_method_6_code 119 = .ok (.iload_n 3, 1) := by decide +kernel
theorem d_Packer_findCopy_120 : decode prog_6_method_6_code 120 = .ok (.isub, 1) := by decide +kernel
theorem d_Packer_findCopy_121 : decode prog_6_method_6_code 121 = .ok (.putfield 90, 3) := by decide +kernel
theorem d_Packer_findCopy_124 : decode prog_6_method_6_code 124 = .ok (.aload_n 0, 1) := by decide +kernel
theorem d_Packer_findCopy_125 : decode prog_6_method_6_code 125 = .ok (.getfield 18, 3) := by decide +kernel
theorem d_Packer_findCopy_128 : decode prog_6_method_6_code 128 = .ok (.iload_n 3, 1) := by decide +kernel
theorem d_Packer_findCopy_129 : decode prog_6_method_6_code 129 = .ok (.iaload, 1) := by decide +kernel
theorem d_Packer_findCopy_130 : decode prog_6_method_6_code 130 = .ok (.istore_n 3, 1) := by decide +kernel
theorem d_Packer_findCopy_131 : decode prog_6_method_6_code 131 = .ok (.iinc 5 1, 3) := by decide +kernel
theorem d_Packer_findCopy_134 : decode prog_6_method_6_code 134 = .ok (.goto (-86), 3) := by decide +kernel
theorem d_Packer_findCopy_137 : decode prog_6_method_6_code 137 = .ok (.return_, 1) := by decide +kernel
set_option maxRecDepth 100000 in
set_option maxHeartbeats 4000000 in
theorem c_Packer_findCopy {l0 : Launch} (hl : l0.stackTraces = false) (n : Nat) (ids : List Nat) {t : Nat} (ht : mm_ok ids t 1 9) (a0 : Int32) (σ : Mm) : kw_C l0 y_Packer_findCopy (Cond.code y_Packer_findCopy prog_6_method_6_code 7 none :: kw_Ts) rm_Packer_findCopy kw_ov ids [] [.ref t, .int a0] σ (F_Packer_findCopy n t a0 σ) := by
  refine kw_start (L0 := [some (.ref t), some (.int a0), none, none, none, none, none]) hl (by decide +kernel) (Nat.le_of_ble_eq_true rfl) rfl (fun Γ ad C Ce => ?_)
  unfold F_Packer_findCopy
  refine kw_aload_n C d_Packer_findCopy_0 rfl ?_
  refine kw_iconst (v := 0) C d_Packer_findCopy_1 (by decide) ?_
  refine kw_putI C fi_Packer_64 rfl ht d_Packer_findCopy_2 (fun σ1 => ?_)
  refine kw_sipush (v := 258) C d_Packer_findCopy_5 (by decide) ?_
  refine kw_aload_n C d_Packer_findCopy_8 rfl ?_
  refine kw_getI C fi_Packer_28 (Or.inl rfl) ht d_Packer_findCopy_9 ?_
  refine kw_iload_n C d_Packer_findCopy_12 rfl ?_
  refine kw_isub C d_Packer_findCopy_13 ?_
  refine kw_mmin C mth_Packer_33 ms_min in_Math mw_min (Nat.le_of_ble_eq_true rfl) (Nat.le_of_ble_eq_true rfl) (Nat.le_of_ble_eq_true rfl) (Nat.le_of_ble_eq_true rfl) d_Packer_findCopy_14 ?_
  refine kw_leti (fun x2 => ?_)
  refine kw_istore_n (L' := [some (.ref t), some (.int a0), some (.int x2), none, none, none, none]) C d_Packer_findCopy_17 (by decide) rfl ?_
  refine kw_iload_n C d_Packer_findCopy_18 rfl ?_
  refine kw_iconst (v := 3) C d_Packer_findCopy_19 (by decide) ?_
  refine kw_icmp_ge (tgt := 24) C d_Packer_findCopy_20 (by decide) ?_ ?_
  · refine kw_aload_n C d_Packer_findCopy_24 rfl ?_
    refine kw_getR C fi_Packer_11 rfl rfl ht d_Packer_findCopy_25 (fun o3 ho3 => ?_)
    refine kw_aload_n C d_Packer_findCopy_28 rfl ?_
    refine kw_iload_n C d_Packer_findCopy_29 rfl ?_
    refine kw_callVi (cl' := 0) (sl' := 0) (As := [.int a0]) C (c_Packer_hashAt hl n ids ht a0 σ1) mi_Packer_78 v_Packer_hashAt ⟨_, _, rfl⟩ ht ⟨Nat.le_of_ble_eq_true rfl, Nat.le_of_ble_eq_true rfl⟩ (Nat.le_of_ble_eq_true rfl) ⟨Nat.le_of_ble_eq_true rfl, Nat.le_of_ble_eq_true rfl⟩ ⟨rfl, rfl⟩ rfl d_Packer_findCopy_30 (fun x4 σ5 => ?_)
    refine kw_iald C (Or.inl ⟨ho3.1, ho3.2.1⟩) d_Packer_findCopy_33 ?_
    refine kw_leti (fun x6 => ?_)
    refine kw_istore_n (L' := [some (.ref t), some (.int a0), some (.int x2), some (.int x6), none, none, none]) C d_Packer_findCopy_34 (by decide) rfl ?_
    refine kw_iconst (v := 0) C d_Packer_findCopy_35 (by decide) ?_
    refine kw_iload_n C d_Packer_findCopy_36 rfl ?_
    refine kw_ldc (v := 32768) C d_Packer_findCopy_37 k_Packer_82 ?_
    refine kw_isub C d_Packer_findCopy_39 ?_
    refine kw_mmax C mth_Packer_83 ms_max in_Math mw_max (Nat.le_of_ble_eq_true rfl) (Nat.le_of_ble_eq_true rfl) (Nat.le_of_ble_eq_true rfl) (Nat.le_of_ble_eq_true rfl) d_Packer_findCopy_40 ?_
    refine kw_leti (fun x7 => ?_)
    refine kw_istore (L' := [some (.ref t), some (.int a0), some (.int x2), some (.int x6), some (.int x7), none, none]) C d_Packer_findCopy_43 (by decide) rfl ?_
    refine kw_iconst (v := 0) C d_Packer_findCopy_45 (by decide) ?_
    refine kw_istore (L' := [some (.ref t), some (.int a0), some (.int x2), some (.int x6), some (.int x7), some (.int 0), none]) C d_Packer_findCopy_46 (by decide) rfl ?_
    refine kw_wk (kw_l (α := Int32 × Int32) (pc := 48) (Lj := fun x9 => [some (.ref t), some (.int a0), some (.int x2), some (.int x9.1), some (.int x7), some (.int x9.2), none]) (stj := fun x9 => []) (fun k8 hk8 x9 σ10 => ?_) n (x6, 0) σ5) ⟨Or.inr rfl, Or.inr rfl, Or.inr rfl, Or.inr rfl, Or.inr rfl, Or.inr rfl, Or.inl rfl, trivial⟩
    refine kw_iload C d_Packer_findCopy_48 rfl ?_
    refine kw_iload_n C d_Packer_findCopy_50 rfl ?_
    refine kw_j (α := Unit) (pcj := 137) (Lj := fun x12 => [none, none, none, none, none, none, none]) (stj := fun x12 => []) (fun x12 σ13 => ?_) (fun k11 hk11 => ?_)
    · exact kw_vret C Ce rfl (by simp) (fun _ _ => rfl) (Nat.le_of_ble_eq_true rfl) (Nat.le_of_ble_eq_true rfl) rfl d_Packer_findCopy_137
    · refine kw_icmp_ge (tgt := 137) C d_Packer_findCopy_51 (by decide) ?_ ?_
      · exact kw_wk (hk11 () σ10) ⟨Or.inl rfl, Or.inl rfl, Or.inl rfl, Or.inl rfl, Or.inl rfl, Or.inl rfl, Or.inl rfl, trivial⟩
      · refine kw_iload_n C d_Packer_findCopy_54 rfl ?_
        refine kw_iload C d_Packer_findCopy_55 rfl ?_
        refine kw_icmp_lt (tgt := 137) C d_Packer_findCopy_57 (by decide) ?_ ?_
        · exact kw_wk (hk11 () σ10) ⟨Or.inl rfl, Or.inl rfl, Or.inl rfl, Or.inl rfl, Or.inl rfl, Or.inl rfl, Or.inl rfl, trivial⟩
        · refine kw_aload_n C d_Packer_findCopy_60 rfl ?_
          refine kw_getI C fi_Packer_64 (Or.inl rfl) ht d_Packer_findCopy_61 ?_
          refine kw_iload_n C d_Packer_findCopy_64 rfl ?_
          refine kw_icmp_ge (tgt := 137) C d_Packer_findCopy_65 (by decide) ?_ ?_
          · exact kw_wk (hk11 () σ10) ⟨Or.inl rfl, Or.inl rfl, Or.inl rfl, Or.inl rfl, Or.inl rfl, Or.inl rfl, Or.inl rfl, trivial⟩
          · refine kw_aload_n C d_Packer_findCopy_68 rfl ?_
            refine kw_getR C fi_Packer_25 rfl rfl ht d_Packer_findCopy_69 (fun o14 ho14 => ?_)
            refine kw_iload_n C d_Packer_findCopy_72 rfl ?_
            refine kw_aload_n C d_Packer_findCopy_73 rfl ?_
            refine kw_getI C fi_Packer_64 (Or.inl rfl) ht d_Packer_findCopy_74 ?_
            refine kw_iadd C d_Packer_findCopy_77 ?_
            refine kw_leti (fun x15 => ?_)
            refine kw_iald C (Or.inl ⟨ho14.1, ho14.2.1⟩) d_Packer_findCopy_78 ?_
            refine kw_aload_n C d_Packer_findCopy_79 rfl ?_
            refine kw_getR C fi_Packer_25 rfl rfl ht d_Packer_findCopy_80 (fun o16 ho16 => ?_)
            refine kw_iload_n C d_Packer_findCopy_83 rfl ?_
            refine kw_aload_n C d_Packer_findCopy_84 rfl ?_
            refine kw_getI C fi_Packer_64 (Or.inl rfl) ht d_Packer_findCopy_85 ?_
            refine kw_iadd C d_Packer_findCopy_88 ?_
            refine kw_leti (fun x17 => ?_)
            refine kw_iald C (Or.inl ⟨ho16.1, ho16.2.1⟩) d_Packer_findCopy_89 ?_
            refine kw_j (α := Unit) (pcj := 124) (Lj := fun x19 => [some (.ref t), some (.int a0), some (.int x2), some (.int x9.1), some (.int x7), some (.int x9.2), none]) (stj := fun x19 => []) (fun x19 σ20 => ?_) (fun k18 hk18 => ?_)
            · refine kw_aload_n C d_Packer_findCopy_124 rfl ?_
              refine kw_getR C fi_Packer_18 rfl rfl ht d_Packer_findCopy_125 (fun o21 ho21 => ?_)
              refine kw_iload_n C d_Packer_findCopy_128 rfl ?_
              refine kw_iald C (Or.inl ⟨ho21.1, ho21.2.1⟩) d_Packer_findCopy_129 ?_
              refine kw_leti (fun x22 => ?_)
              refine kw_istore_n (L' := [some (.ref t), some (.int a0), some (.int x2), some (.int x22), some (.int x7), some (.int x9.2), none]) C d_Packer_findCopy_130 (by decide) rfl ?_
              refine kw_iincL (L2 := fun x23 => [some (.ref t), some (.int a0), some (.int x2), some (.int x22), some (.int x7), some (.int x23), none]) C d_Packer_findCopy_131 (by decide) rfl (fun _ => rfl) (fun x23 => ?_)
              refine kw_goto (tgt := 48) C d_Packer_findCopy_134 (by decide) ?_
              exact kw_wk (hk8 (x22, x23) σ20) ⟨Or.inr rfl, Or.inr rfl, Or.inr rfl, Or.inr rfl, Or.inr rfl, Or.inr rfl, Or.inl rfl, trivial⟩
            · refine kw_icmp_ne (tgt := 124) C d_Packer_findCopy_90 (by decide) ?_ ?_
              · exact kw_wk (hk18 () σ10) ⟨Or.inr rfl, Or.inr rfl, Or.inr rfl, Or.inr rfl, Or.inr rfl, Or.inr rfl, Or.inl rfl, trivial⟩
              · refine kw_aload_n C d_Packer_findCopy_93 rfl ?_
                refine kw_iload_n C d_Packer_findCopy_94 rfl ?_
                refine kw_iload_n C d_Packer_findCopy_95 rfl ?_
                refine kw_iload_n C d_Packer_findCopy_96 rfl ?_
                refine kw_callVi (cl' := 0) (sl' := 0) (As := [.int x9.1, .int a0, .int x2]) C (c_Packer_alike hl n ids ht x9.1 a0 x2 σ10) mi_Packer_86 v_Packer_alike ⟨_, _, rfl⟩ ht ⟨Nat.le_of_ble_eq_true rfl, Nat.le_of_ble_eq_true rfl⟩ (Nat.le_of_ble_eq_true rfl) ⟨Nat.le_of_ble_eq_true rfl, Nat.le_of_ble_eq_true rfl⟩ ⟨rfl, rfl⟩ rfl d_Packer_findCopy_97 (fun x24 σ25 => ?_)
                refine kw_istore (L' := [some (.ref t), some (.int a0), some (.int x2), some (.int x9.1), some (.int x7), some (.int x9.2), some (.int x24)]) C d_Packer_findCopy_100 (by decide) rfl ?_
                refine kw_iload C d_Packer_findCopy_102 rfl ?_
                refine kw_aload_n C d_Packer_findCopy_104 rfl ?_
                refine kw_getI C fi_Packer_64 (Or.inl rfl) ht d_Packer_findCopy_105 ?_
                refine kw_icmp_le (tgt := 124) C d_Packer_findCopy_108 (by decide) ?_ ?_
                · exact kw_wk (hk18 () σ25) ⟨Or.inr rfl, Or.inr rfl, Or.inr rfl, Or.inr rfl, Or.inr rfl, Or.inr rfl, Or.inl rfl, trivial⟩
                · refine kw_aload_n C d_Packer_findCopy_111 rfl ?_
                  refine kw_iload C d_Packer_findCopy_112 rfl ?_
                  refine kw_putI C fi_Packer_64 rfl ht d_Packer_findCopy_114 (fun σ26 => ?_)
                  refine kw_aload_n C d_Packer_findCopy_117 rfl ?_
                  refine kw_iload_n C d_Packer_findCopy_118 rfl ?_
                  refine kw_iload_n C d_Packer_findCopy_119 rfl ?_
                  refine kw_isub C d_Packer_findCopy_120 ?_
                  refine kw_putI C fi_Packer_90 rfl ht d_Packer_findCopy_121 (fun σ27 => ?_)
                  exact kw_wk (hk18 () σ27) ⟨Or.inr rfl, Or.inr rfl, Or.inr rfl, Or.inr rfl, Or.inr rfl, Or.inr rfl, Or.inl rfl, trivial⟩
  · exact kw_vret C Ce rfl (by simp) (fun _ _ => rfl) (Nat.le_of_ble_eq_true rfl) (Nat.le_of_ble_eq_true rfl) rfl d_Packer_findCopy_23
/-! Packer_lastUpTo -/
def rm_Packer_lastUpTo : Room := { frames := 0, cells := 0, slots := 0, locals := 0 }
def F_Packer_lastUpTo (n : Nat) (r0 : Nat) (a1 : Int32) (σ : Mm) : Option (Int32 × Mm) :=
kf_let ((Int32.ofNat (mm_kd r0).2.2) - 1 : Int32) fun x1 =>
kf_l (α := Int32) n (fun k2 x3 σ4 =>
kf_j (α := Unit) (fun x6 σ7 =>
some (x3, σ7)) fun k5 =>
if x3 ≤ 0 then (
k5 () σ4) else (
kf_in x3 (mm_kd r0).2.2 <|
if (gB σ4 r0 x3.toNatClampNeg) ≤ a1 then (
k5 () σ4) else (
kf_let (x3 + Int32.ofInt (-1)) fun x8 =>
k2 x8 σ4))) x1 σ
theorem d_Packer_lastUpTo_0 : decode prog_6_method_9_code 0 = .ok (.aload_n 0, 1) := by decide +kernel
theorem d_Packer_lastUpTo_1 : decode prog_6_method_9_code 1 = .ok (.arraylength, 1) := by decide +kernel
theorem d_Packer_lastUpTo_2 : decode prog_6_method_9_code 2 = .ok (.iconst 1, 1) := by decide +kernel
theorem d_Packer_lastUpTo_3 : decode prog_6_method_9_code 3 = .ok (.isub, 1) := by decide +kernel
theorem d_Packer_lastUpTo_4 : decode prog_6_method_9_code 4 = .ok (.istore_n 2, 1) := by decide +kernel
theorem d_Packer_lastUpTo_5 : decode prog_6_method_9_code 5 = .ok (.iload_n 2, 1) := by decide +kernel
theorem d_Packer_lastUpTo_6 : decode prog_6_method_9_code 6 = .ok (.ifCond .le 16, 3) := by decide +kernel
theorem d_Packer_lastUpTo_9 : decode prog_6_method_9_code 9 = .ok (.aload_n 0, 1) := by decide +kernel
theorem d_Packer_lastUpTo_10 : decode prog_6_method_9_code 10 = .ok (.iload_n 2, 1) := by decide +kernel
theorem d_Packer_lastUpTo_11 : decode prog_6_method_9_code 11 = .ok (.iaload, 1) := by decide +kernel
theorem d_Packer_lastUpTo_12 : decode prog_6_method_9_code 12 = .ok (.iload_n 1, 1) := by decide +kernel
theorem d_Packer_lastUpTo_13 : decode prog_6_method_9_code 13 = .ok (.if_icmp .le 9, 3) := by decide +kernel
theorem d_Packer_lastUpTo_16 : decode prog_6_method_9_code 16 = .ok (.iinc 2 (-1), 3) := by decide +kernel
theorem d_Packer_lastUpTo_19 : decode prog_6_method_9_code 19 = .ok (.goto (-14), 3) := by decide +kernel
theorem d_Packer_lastUpTo_22 : decode prog_6_method_9_code 22 = .ok (.iload_n 2, 1) := by decide +kernel
theorem d_Packer_lastUpTo_23 : decode prog_6_method_9_code 23 = .ok (.ireturn, 1) := by decide +kernel
set_option maxRecDepth 100000 in
set_option maxHeartbeats 4000000 in
theorem c_Packer_lastUpTo {l0 : Launch} (hl : l0.stackTraces = false) (n : Nat) (ids : List Nat) {r0 : Nat} (hr0 : mm_ai ids r0) (a1 : Int32) (σ : Mm) : kw_C l0 y_Packer_lastUpTo (Cond.code y_Packer_lastUpTo prog_6_method_9_code 3 (some .int) :: kw_Ts) rm_Packer_lastUpTo kw_oi ids [] [.ref r0, .int a1] σ (F_Packer_lastUpTo n r0 a1 σ) := by
  refine kw_start (L0 := [some (.ref r0), some (.int a1), none]) hl (by decide +kernel) (Nat.le_of_ble_eq_true rfl) rfl (fun Γ ad C Ce => ?_)
  unfold F_Packer_lastUpTo
  refine kw_aload_n C d_Packer_lastUpTo_0 rfl ?_
  refine kw_alen C hr0 d_Packer_lastUpTo_1 ?_
  refine kw_iconst (v := 1) C d_Packer_lastUpTo_2 (by decide) ?_
  refine kw_isub C d_Packer_lastUpTo_3 ?_
  refine kw_leti (fun x1 => ?_)
  refine kw_istore_n (L' := [some (.ref r0), some (.int a1), some (.int x1)]) C d_Packer_lastUpTo_4 (by decide) rfl ?_
  refine kw_wk (kw_l (α := Int32) (pc := 5) (Lj := fun x3 => [some (.ref r0), some (.int a1), some (.int x3)]) (stj := fun x3 => []) (fun k2 hk2 x3 σ4 => ?_) n x1 σ) ⟨Or.inr rfl, Or.inr rfl, Or.inr rfl, trivial⟩
  refine kw_iload_n C d_Packer_lastUpTo_5 rfl ?_
  refine kw_j (α := Unit) (pcj := 22) (Lj := fun x6 => [none, none, some (.int x3)]) (stj := fun x6 => []) (fun x6 σ7 => ?_) (fun k5 hk5 => ?_)
  · refine kw_iload_n C d_Packer_lastUpTo_22 rfl ?_
    exact kw_iret C Ce rfl (by simp) (fun _ _ => rfl) (Nat.le_of_ble_eq_true rfl) (Nat.le_of_ble_eq_true rfl) rfl d_Packer_lastUpTo_23
  · refine kw_if_le (tgt := 22) C d_Packer_lastUpTo_6 (by decide) ?_ ?_
    · exact kw_wk (hk5 () σ4) ⟨Or.inl rfl, Or.inl rfl, Or.inr rfl, trivial⟩
    · refine kw_aload_n C d_Packer_lastUpTo_9 rfl ?_
      refine kw_iload_n C d_Packer_lastUpTo_10 rfl ?_
      refine kw_iald C hr0 d_Packer_lastUpTo_11 ?_
      refine kw_iload_n C d_Packer_lastUpTo_12 rfl ?_
      refine kw_icmp_le (tgt := 22) C d_Packer_lastUpTo_13 (by decide) ?_ ?_
      · exact kw_wk (hk5 () σ4) ⟨Or.inl rfl, Or.inl rfl, Or.inr rfl, trivial⟩
      · refine kw_iincL (L2 := fun x8 => [some (.ref r0), some (.int a1), some (.int x8)]) C d_Packer_lastUpTo_16 (by decide) rfl (fun _ => rfl) (fun x8 => ?_)
        refine kw_goto (tgt := 5) C d_Packer_lastUpTo_19 (by decide) ?_
        exact kw_wk (hk2 x8 σ4) ⟨Or.inr rfl, Or.inr rfl, Or.inr rfl, trivial⟩
/-! Packer_turned -/
def rm_Packer_turned : Room := { frames := 0, cells := 0, slots := 0, locals := 0 }
def F_Packer_turned (n : Nat) (a0 : Int32) (a1 : Int32) (σ : Mm) : Option (Int32 × Mm) :=
kf_l (α := Int32 × Int32) n (fun k1 x2 σ3 =>
if a1 ≤ x2.2 then (
some (x2.1, σ3)) else (
kf_let ((x2.1 <<< (1 &&& 31)) ||| ((a0 >>> (x2.2 &&& 31)) &&& 1) : Int32) fun x4 =>
kf_let (x2.2 + Int32.ofInt 1) fun x5 =>
k1 (x4, x5) σ3)) (0, 0) σ
theorem d_Packer_turned_0 : decode prog_6_method_11_code 0 = .ok (.iconst 0, 1) := by decide +kernel
theorem d_Packer_turned_1 : decode prog_6_method_11_code 1 = .ok (.istore_n 2, 1) := by decide +kernel
theorem d_Packer_turned_2 : decode prog_6_method_11_code 2 = .ok (.iconst 0, 1) := by decide +kernel
theorem d_Packer_turned_3 : decode prog_6_method_11_code 3 = .ok (.istore_n 3, 1) := by decide +kernel
theorem d_Packer_turned_4 : decode prog_6_method_11_code 4 = .ok (.iload_n 3, 1) := by decide +kernel
theorem d_Packer_turned_5 : decode prog_6_method_11_code 5 = .ok (.iload_n 1, 1) := by decide +kernel
theorem d_Packer_turned_6 : decode prog_6_method_11_code 6 = .ok (.if_icmp .ge 19, 3) := by decide +kernel
theorem d_Packer_turned_9 : decode prog_6_method_11_code 9 = .ok (.iload_n 2, 1) := by decide +kernel
theorem d_Packer_turned_10 : decode prog_6_method_11_code 10 = .ok (.iconst 1, 1) := by decide +kernel
theorem d_Packer_turned_11 : decode prog_6_method_11_code 11 = .ok (.ishl, 1) := by decide +kernel
theorem d_Packer_turned_12 : decode prog_6_method_11_code 12 = .ok (.iload_n 0, 1) := by decide +kernel
theorem d_Packer_turned_13 : decode prog_6_method_11_code 13 = .ok (.iload_n 3, 1) := by decide +kernel
theorem d_Packer_turned_14 : decode prog_6_method_11_code 14 = .ok (.ishr, 1) := by decide +kernel
theorem d_Packer_turned_15 : decode prog_6_method_11_code 15 = .ok (.iconst 1, 1) := by decide +kernel
theorem d_Packer_turned_16 : decode prog_6_method_11_code 16 = .ok (.iand, 1) := by decide +kernel
theorem d_Packer_turned_17 : decode prog_6_method_11_code 17 = .ok (.ior, 1) := by decide +kernel
theorem d_Packer_turned_18 : decode prog_6_method_11_code 18 = .ok (.istore_n 2, 1) := by decide +kernel
theorem d_Packer_turned_19 : decode prog_6_method_11_code 19 = .ok (.iinc 3 1, 3) := by decide +kernel
theorem d_Packer_turned_22 : decode prog_6_method_11_code 22 = .ok (.goto (-18), 3) := by decide +kernel
theorem d_Packer_turned_25 : decode prog_6_method_11_code 25 = .ok (.iload_n 2, 1) := by decide +kernel
theorem d_Packer_turned_26 : decode prog_6_method_11_code 26 = .ok (.ireturn, 1) := by decide +kernel
set_option maxRecDepth 100000 in
set_option maxHeartbeats 4000000 in
theorem c_Packer_turned {l0 : Launch} (hl : l0.stackTraces = false) (n : Nat) (ids : List Nat)  (a0 : Int32) (a1 : Int32) (σ : Mm) : kw_C l0 y_Packer_turned (Cond.code y_Packer_turned prog_6_method_11_code 4 (some .int) :: kw_Ts) rm_Packer_turned kw_oi ids [] [.int a0, .int a1] σ (F_Packer_turned n a0 a1 σ) := by
  refine kw_start (L0 := [some (.int a0), some (.int a1), none, none]) hl (by decide +kernel) (Nat.le_of_ble_eq_true rfl) rfl (fun Γ ad C Ce => ?_)
  unfold F_Packer_turned
  refine kw_iconst (v := 0) C d_Packer_turned_0 (by decide) ?_
  refine kw_istore_n (L' := [some (.int a0), some (.int a1), some (.int 0), none]) C d_Packer_turned_1 (by decide) rfl ?_
  refine kw_iconst (v := 0) C d_Packer_turned_2 (by decide) ?_
  refine kw_istore_n (L' := [some (.int a0), some (.int a1), some (.int 0), some (.int 0)]) C d_Packer_turned_3 (by decide) rfl ?_
  refine kw_wk (kw_l (α := Int32 × Int32) (pc := 4) (Lj := fun x2 => [some (.int a0), some (.int a1), some (.int x2.1), some (.int x2.2)]) (stj := fun x2 => []) (fun k1 hk1 x2 σ3 => ?_) n (0, 0) σ) ⟨Or.inr rfl, Or.inr rfl, Or.inr rfl, Or.inr rfl, trivial⟩
  refine kw_iload_n C d_Packer_turned_4 rfl ?_
  refine kw_iload_n C d_Packer_turned_5 rfl ?_
  refine kw_icmp_ge (tgt := 25) C d_Packer_turned_6 (by decide) ?_ ?_
  · refine kw_iload_n C d_Packer_turned_25 rfl ?_
    exact kw_iret C Ce rfl (by simp) (fun _ _ => rfl) (Nat.le_of_ble_eq_true rfl) (Nat.le_of_ble_eq_true rfl) rfl d_Packer_turned_26
  · refine kw_iload_n C d_Packer_turned_9 rfl ?_
    refine kw_iconst (v := 1) C d_Packer_turned_10 (by decide) ?_
    refine kw_ishl C d_Packer_turned_11 ?_
    refine kw_iload_n C d_Packer_turned_12 rfl ?_
    refine kw_iload_n C d_Packer_turned_13 rfl ?_
    refine kw_ishr C d_Packer_turned_14 ?_
    refine kw_iconst (v := 1) C d_Packer_turned_15 (by decide) ?_
    refine kw_iand C d_Packer_turned_16 ?_
    refine kw_ior C d_Packer_turned_17 ?_
    refine kw_leti (fun x4 => ?_)
    refine kw_istore_n (L' := [some (.int a0), some (.int a1), some (.int x4), some (.int x2.2)]) C d_Packer_turned_18 (by decide) rfl ?_
    refine kw_iincL (L2 := fun x5 => [some (.int a0), some (.int a1), some (.int x4), some (.int x5)]) C d_Packer_turned_19 (by decide) rfl (fun _ => rfl) (fun x5 => ?_)
    refine kw_goto (tgt := 4) C d_Packer_turned_22 (by decide) ?_
    exact kw_wk (hk1 (x4, x5) σ3) ⟨Or.inr rfl, Or.inr rfl, Or.inr rfl, Or.inr rfl, trivial⟩
/-! Packer_addSign -/
def rm_Packer_addSign : Room := { frames := 2, cells := 0, slots := 0, locals := 44 }
def F_Packer_addSign (n : Nat) (t : Nat) (a0 : Int32) (σ : Mm) : Option (Mm) :=
kf_j (α := Unit) (fun x2 σ3 =>
some σ3) fun k1 =>
if 144 ≤ a0 then (
if 256 ≤ a0 then (
if 280 ≤ a0 then (
kf_c2 (F_Packer_turned n (((192 : Int32) + a0) - 280) 8 σ) fun x4 σ5 =>
Option.bind (F_Packer_addBits n t x4 8 σ5) fun σ6 =>
k1 () σ6) else (
kf_c2 (F_Packer_turned n (a0 - 256) 7 σ) fun x7 σ8 =>
Option.bind (F_Packer_addBits n t x7 7 σ8) fun σ9 =>
k1 () σ9)) else (
kf_c2 (F_Packer_turned n (((400 : Int32) + a0) - 144) 9 σ) fun x10 σ11 =>
Option.bind (F_Packer_addBits n t x10 9 σ11) fun σ12 =>
k1 () σ12)) else (
kf_c2 (F_Packer_turned n ((48 : Int32) + a0) 8 σ) fun x13 σ14 =>
Option.bind (F_Packer_addBits n t x13 8 σ14) fun σ15 =>
k1 () σ15)
theorem d_Packer_addSign_0 : decode prog_6_method_10_code 0 = .ok (.iload_n 1, 1) := by decide +kernel
theorem d_Packer_addSign_1 : decode prog_6_method_10_code 1 = .ok (.sipush 144, 3) := by decide +kernel
theorem d_Packer_addSign_4 : decode prog_6_method_10_code 4 = .ok (.if_icmp .ge 21, 3) := by decide +kernel
theorem d_Packer_addSign_7 : decode prog_6_method_10_code 7 = .ok (.aload_n 0, 1) := by decide +kernel
theorem d_Packer_addSign_8 : decode prog_6_method_10_code 8 = .ok (.bipush 48, 2) := by decide +kernel
theorem d_Packer_addSign_10 : decode prog_6_method_10_code 10 = .ok (.iload_n 1, 1) := by decide +kernel
theorem d_Packer_addSign_11 : decode prog_6_method_10_code 11 = .ok (.iadd, 1) := by decide +kernel
theorem d_Packer_addSign_12 : decode prog_6_method_10_code 12 = .ok (.bipush 8, 2) := by decide +kernel
theorem d_Packer_addSign_14 : decode prog_6_method_10_code 14 = .ok (.invokestatic 106, 3) := by decide +kernel
theorem d_Packer_addSign_17 : decode prog_6_method_10_code 17 = .ok (.bipush 8, 2) := by decide +kernel
theorem d_Packer_addSign_19 : decode prog_6_method_10_code 19 = .ok (.invokevirtual 57, 3) := by decide +kernel
theorem d_Packer_addSign_22 : decode prog_6_method_10_code 22 = .ok (.goto 79, 3) := by decide +kernel
theorem d_Packer_addSign_25 : decode prog_6_method_10_code 25 = .ok (.iload_n 1, 1) := by decide +kernel
theorem d_Packer_addSign_26 : decode prog_6_method_10_code 26 = .ok (.sipush 256, 3) := by decide +kernel
theorem d_Packer_addSign_29 : decode prog_6_method_10_code 29 = .ok (.if_icmp .ge 26, 3) := by decide +kernel
theorem d_Packer_addSign_32 : decode prog_6_method_10_code 32 = .ok (.aload_n 0, 1) := by decide +kernel
theorem d_Packer_addSign_33 : decode prog_6_method_10_code 33 = .ok (.sipush 400, 3) := by decide +kernel
theorem d_Packer_addSign_36 : decode prog_6_method_10_code 36 = .ok (.iload_n 1, 1) := by decide +kernel
theorem d_Packer_addSign_37 : decode prog_6_method_10_code 37 = .ok (.iadd, 1) := by decide +kernel
theorem d_Packer_addSign_38 : decode prog_6_method_10_code 38 = .ok (.sipush 144, 3) := by decide +kernel
theorem d_Packer_addSign_41 : decode prog_6_method_10_code 41 = .ok (.isub, 1) := by decide +kernel
theorem d_Packer_addSign_42 : decode prog_6_method_10_code 42 = .ok (.bipush 9, 2) := by decide +kernel
theorem d_Packer_addSign_44 : decode prog_6_method_10_code 44 = .ok (.invokestatic 106, 3) := by decide +kernel
theorem d_Packer_addSign_47 : decode prog_6_method_10_code 47 = .ok (.bipush 9, 2) := by decide +kernel
theorem d_Packer_addSign_49 : decode prog_6_method_10_code 49 = .ok (.invokevirtual 57, 3) := by decide +kernel
theorem d_Packer_addSign_52 : decode prog_6_method_10_code 52 = .ok (.goto 49, 3) := by decide +kernel
theorem d_Packer_addSign_55 : decode prog_6_method_10_code 55 = .ok (.iload_n 1, 1) := by decide +kernel
theorem d_Packer_addSign_56 : decode prog_6_method_10_code 56 = .ok (.sipush 280, 3) := by decide +kernel
theorem d_Packer_addSign_59 : decode prog_6_method_10_code 59 = .ok (.if_icmp .ge 22, 3) := by decide +kernel
theorem d_Packer_addSign_62 : decode prog_6_method_10_code 62 = .ok (.aload_n 0, 1) := by decide +kernel
theorem d_Packer_addSign_63 : decode prog_6_method_10_code 63 = .ok (.iload_n 1, 1) := by decide +kernel
theorem d_Packer_addSign_64 : decode prog_6_method_10_code 64 = .ok (.sipush 256, 3) := by decide +kernel
theorem d_Packer_addSign_67 : decode prog_6_method_10_code 67 = .ok (.isub, 1) := by decide +kernel
theorem d_Packer_addSign_68 : decode prog_6_method_10_code 68 = .ok (.bipush 7, 2) := by decide +kernel
theorem d_Packer_addSign_70 : decode prog_6_method_10_code 70 = .ok (.invokestatic 106, 3) := by decide +kernel
theorem d_Packer_addSign_73 : decode prog_6_method_10_code 73 = .ok (.bipush 7, 2) := by decide +kernel
theorem d_Packer_addSign_75 : decode prog_6_method_10_code 75 = .ok (.invokevirtual 57, 3) := by decide +kernel
theorem d_Packer_addSign_78 : decode prog_6_method_10_code 78 = .ok (.goto 23, 3) := by decide +kernel
theorem d_Packer_addSign_81 : decode prog_6_method_10_code 81 = .ok (.aload_n 0, 1) := by decide +kernel
theorem d_Packer_addSign_82 : decode prog_6_method_10_code 82 = .ok (.sipush 192, 3) := by decide +kernel
theorem d_Packer_addSign_85 : decode prog_6_method_10_code 85 = .ok (.iload_n 1, 1) := by decide +kernel
theorem d_Packer_addSign_86 : decode prog_6_method_10_code 86 = .ok (.iadd, 1) := by decide +kernel
theorem d_Packer_addSign_87 : decode prog_6_method_10_code 87 = .ok (.sipush 280, 3) := by decide +kernel
theorem d_Packer_addSign_90 : decode prog_6_method_10_code 90 = .ok (.isub, 1) := by decide +kernel
theorem d_Packer_addSign_91 : decode prog_6_method_10_code 91 = .ok (.bipush 8, 2) := by decide +kernel
theorem d_Packer_addSign_93 : decode prog_6_method_10_code 93 = .ok (.invokestatic 106, 3) := by decide +kernel
theorem d_Packer_addSign_96 : decode prog_6_method_10_code 96 = .ok (.bipush 8, 2) := by decide +kernel
theorem d_Packer_addSign_98 : decode prog_6_method_10_code 98 = .ok (.invokevirtual 57, 3) := by decide +kernel
theorem d_Packer_addSign_101 : decode prog_6_method_10_code 101 = .ok (.return_, 1) := by decide +kernel
set_option maxRecDepth 100000 in
set_option maxHeartbeats 4000000 in
theorem c_Packer_addSign {l0 : Launch} (hl : l0.stackTraces = false) (n : Nat) (ids : List Nat) {t : Nat} (ht : mm_ok ids t 1 9) (a0 : Int32) (σ : Mm) : kw_C l0 y_Packer_addSign (Cond.code y_Packer_addSign prog_6_method_10_code 2 none :: kw_Ts) rm_Packer_addSign kw_ov ids [] [.ref t, .int a0] σ (F_Packer_addSign n t a0 σ) := by
  refine kw_start (L0 := [some (.ref t), some (.int a0)]) hl (by decide +kernel) (Nat.le_of_ble_eq_true rfl) rfl (fun Γ ad C Ce => ?_)
  unfold F_Packer_addSign
  refine kw_iload_n C d_Packer_addSign_0 rfl ?_
  refine kw_sipush (v := 144) C d_Packer_addSign_1 (by decide) ?_
  refine kw_j (α := Unit) (pcj := 101) (Lj := fun x2 => [none, none]) (stj := fun x2 => []) (fun x2 σ3 => ?_) (fun k1 hk1 => ?_)
  · exact kw_vret C Ce rfl (by simp) (fun _ _ => rfl) (Nat.le_of_ble_eq_true rfl) (Nat.le_of_ble_eq_true rfl) rfl d_Packer_addSign_101
  · refine kw_icmp_ge (tgt := 25) C d_Packer_addSign_4 (by decide) ?_ ?_
    · refine kw_iload_n C d_Packer_addSign_25 rfl ?_
      refine kw_sipush (v := 256) C d_Packer_addSign_26 (by decide) ?_
      refine kw_icmp_ge (tgt := 55) C d_Packer_addSign_29 (by decide) ?_ ?_
      · refine kw_iload_n C d_Packer_addSign_55 rfl ?_
        refine kw_sipush (v := 280) C d_Packer_addSign_56 (by decide) ?_
        refine kw_icmp_ge (tgt := 81) C d_Packer_addSign_59 (by decide) ?_ ?_
        · refine kw_aload_n C d_Packer_addSign_81 rfl ?_
          refine kw_sipush (v := 192) C d_Packer_addSign_82 (by decide) ?_
          refine kw_iload_n C d_Packer_addSign_85 rfl ?_
          refine kw_iadd C d_Packer_addSign_86 ?_
          refine kw_sipush (v := 280) C d_Packer_addSign_87 (by decide) ?_
          refine kw_isub C d_Packer_addSign_90 ?_
          refine kw_bipush (v := 8) C d_Packer_addSign_91 (by decide) ?_
          refine kw_callSi (cl' := 0) (sl' := 0) (As := [.int (((192 : Int32) + a0) - 280), .int 8]) C (c_Packer_turned hl n ids  (((192 : Int32) + a0) - 280) 8 σ) mi_Packer_106 s_Packer_turned ⟨Nat.le_of_ble_eq_true rfl, Nat.le_of_ble_eq_true rfl⟩ (Nat.le_of_ble_eq_true rfl) ⟨Nat.le_of_ble_eq_true rfl, Nat.le_of_ble_eq_true rfl⟩ ⟨rfl, rfl⟩ rfl d_Packer_addSign_93 (fun x4 σ5 => ?_)
          refine kw_bipush (v := 8) C d_Packer_addSign_96 (by decide) ?_
          refine kw_callVv (cl' := 0) (sl' := 0) (As := [.int x4, .int 8]) C (c_Packer_addBits hl n ids ht x4 8 σ5) mi_Packer_57 v_Packer_addBits ⟨_, _, rfl⟩ ht ⟨Nat.le_of_ble_eq_true rfl, Nat.le_of_ble_eq_true rfl⟩ (Nat.le_of_ble_eq_true rfl) ⟨Nat.le_of_ble_eq_true rfl, Nat.le_of_ble_eq_true rfl⟩ ⟨rfl, rfl⟩ rfl d_Packer_addSign_98 (fun σ6 => ?_)
          exact kw_wk (hk1 () σ6) ⟨Or.inl rfl, Or.inl rfl, trivial⟩
        · refine kw_aload_n C d_Packer_addSign_62 rfl ?_
          refine kw_iload_n C d_Packer_addSign_63 rfl ?_
          refine kw_sipush (v := 256) C d_Packer_addSign_64 (by decide) ?_
          refine kw_isub C d_Packer_addSign_67 ?_
          refine kw_bipush (v := 7) C d_Packer_addSign_68 (by decide) ?_
          refine kw_callSi (cl' := 0) (sl' := 0) (As := [.int (a0 - 256), .int 7]) C (c_Packer_turned hl n ids  (a0 - 256) 7 σ) mi_Packer_106 s_Packer_turned ⟨Nat.le_of_ble_eq_true rfl, Nat.le_of_ble_eq_true rfl⟩ (Nat.le_of_ble_eq_true rfl) ⟨Nat.le_of_ble_eq_true rfl, Nat.le_of_ble_eq_true rfl⟩ ⟨rfl, rfl⟩ rfl d_Packer_addSign_70 (fun x7 σ8 => ?_)
          refine kw_bipush (v := 7) C d_Packer_addSign_73 (by decide) ?_
          refine kw_callVv (cl' := 0) (sl' := 0) (As := [.int x7, .int 7]) C (c_Packer_addBits hl n ids ht x7 7 σ8) mi_Packer_57 v_Packer_addBits ⟨_, _, rfl⟩ ht ⟨Nat.le_of_ble_eq_true rfl, Nat.le_of_ble_eq_true rfl⟩ (Nat.le_of_ble_eq_true rfl) ⟨Nat.le_of_ble_eq_true rfl, Nat.le_of_ble_eq_true rfl⟩ ⟨rfl, rfl⟩ rfl d_Packer_addSign_75 (fun σ9 => ?_)
          refine kw_goto (tgt := 101) C d_Packer_addSign_78 (by decide) ?_
          exact kw_wk (hk1 () σ9) ⟨Or.inl rfl, Or.inl rfl, trivial⟩
      · refine kw_aload_n C d_Packer_addSign_32 rfl ?_
        refine kw_sipush (v := 400) C d_Packer_addSign_33 (by decide) ?_
        refine kw_iload_n C d_Packer_addSign_36 rfl ?_
        refine kw_iadd C d_Packer_addSign_37 ?_
        refine kw_sipush (v := 144) C d_Packer_addSign_38 (by decide) ?_
        refine kw_isub C d_Packer_addSign_41 ?_
        refine kw_bipush (v := 9) C d_Packer_addSign_42 (by decide) ?_
        refine kw_callSi (cl' := 0) (sl' := 0) (As := [.int (((400 : Int32) + a0) - 144), .int 9]) C (c_Packer_turned hl n ids  (((400 : Int32) + a0) - 144) 9 σ) mi_Packer_106 s_Packer_turned ⟨Nat.le_of_ble_eq_true rfl, Nat.le_of_ble_eq_true rfl⟩ (Nat.le_of_ble_eq_true rfl) ⟨Nat.le_of_ble_eq_true rfl, Nat.le_of_ble_eq_true rfl⟩ ⟨rfl, rfl⟩ rfl d_Packer_addSign_44 (fun x10 σ11 => ?_)
        refine kw_bipush (v := 9) C d_Packer_addSign_47 (by decide) ?_
        refine kw_callVv (cl' := 0) (sl' := 0) (As := [.int x10, .int 9]) C (c_Packer_addBits hl n ids ht x10 9 σ11) mi_Packer_57 v_Packer_addBits ⟨_, _, rfl⟩ ht ⟨Nat.le_of_ble_eq_true rfl, Nat.le_of_ble_eq_true rfl⟩ (Nat.le_of_ble_eq_true rfl) ⟨Nat.le_of_ble_eq_true rfl, Nat.le_of_ble_eq_true rfl⟩ ⟨rfl, rfl⟩ rfl d_Packer_addSign_49 (fun σ12 => ?_)
        refine kw_goto (tgt := 101) C d_Packer_addSign_52 (by decide) ?_
        exact kw_wk (hk1 () σ12) ⟨Or.inl rfl, Or.inl rfl, trivial⟩
    · refine kw_aload_n C d_Packer_addSign_7 rfl ?_
      refine kw_bipush (v := 48) C d_Packer_addSign_8 (by decide) ?_
      refine kw_iload_n C d_Packer_addSign_10 rfl ?_
      refine kw_iadd C d_Packer_addSign_11 ?_
      refine kw_bipush (v := 8) C d_Packer_addSign_12 (by decide) ?_
      refine kw_callSi (cl' := 0) (sl' := 0) (As := [.int ((48 : Int32) + a0), .int 8]) C (c_Packer_turned hl n ids  ((48 : Int32) + a0) 8 σ) mi_Packer_106 s_Packer_turned ⟨Nat.le_of_ble_eq_true rfl, Nat.le_of_ble_eq_true rfl⟩ (Nat.le_of_ble_eq_true rfl) ⟨Nat.le_of_ble_eq_true rfl, Nat.le_of_ble_eq_true rfl⟩ ⟨rfl, rfl⟩ rfl d_Packer_addSign_14 (fun x13 σ14 => ?_)
      refine kw_bipush (v := 8) C d_Packer_addSign_17 (by decide) ?_
      refine kw_callVv (cl' := 0) (sl' := 0) (As := [.int x13, .int 8]) C (c_Packer_addBits hl n ids ht x13 8 σ14) mi_Packer_57 v_Packer_addBits ⟨_, _, rfl⟩ ht ⟨Nat.le_of_ble_eq_true rfl, Nat.le_of_ble_eq_true rfl⟩ (Nat.le_of_ble_eq_true rfl) ⟨Nat.le_of_ble_eq_true rfl, Nat.le_of_ble_eq_true rfl⟩ ⟨rfl, rfl⟩ rfl d_Packer_addSign_19 (fun σ15 => ?_)
      refine kw_goto (tgt := 101) C d_Packer_addSign_22 (by decide) ?_
      exact kw_wk (hk1 () σ15) ⟨Or.inl rfl, Or.inl rfl, trivial⟩
/-! Packer_addCopy -/
def rm_Packer_addCopy : Room := { frames := 3, cells := 0, slots := 0, locals := 65 }
def F_Packer_addCopy (n : Nat) (t : Nat) (σ : Mm) : Option (Mm) :=
kf_c2 (F_Packer_lastUpTo n 105 (gS σ (64 * t + 7)) σ) fun x1 σ2 =>
Option.bind (F_Packer_addSign n t ((257 : Int32) + x1) σ2) fun σ3 =>
kf_in x1 (mm_kd 105).2.2 <|
kf_in x1 (mm_kd 106).2.2 <|
Option.bind (F_Packer_addBits n t ((gS σ3 (64 * t + 7)) - (gB σ3 105 x1.toNatClampNeg)) (gB σ3 106 x1.toNatClampNeg) σ3) fun σ4 =>
kf_c2 (F_Packer_lastUpTo n 107 (gS σ4 (64 * t + 8)) σ4) fun x5 σ6 =>
kf_c2 (F_Packer_turned n x5 5 σ6) fun x7 σ8 =>
Option.bind (F_Packer_addBits n t x7 5 σ8) fun σ9 =>
kf_in x5 (mm_kd 107).2.2 <|
kf_in x5 (mm_kd 108).2.2 <|
Option.bind (F_Packer_addBits n t ((gS σ9 (64 * t + 8)) - (gB σ9 107 x5.toNatClampNeg)) (gB σ9 108 x5.toNatClampNeg) σ9) fun σ10 =>
some σ10
theorem d_Packer_addCopy_0 : decode prog_6_method_8_code 0 = .ok (.getstatic 93, 3) := by decide +kernel
theorem d_Packer_addCopy_3 : decode prog_6_method_8_code 3 = .ok (.aload_n 0, 1) := by decide +kernel
theorem d_Packer_addCopy_4 : decode prog_6_method_8_code 4 = .ok (.getfield 64, 3) := by decide +kernel
theorem d_Packer_addCopy_7 : decode prog_6_method_8_code 7 = .ok (.invokestatic 96, 3) := by decide +kernel
theorem d_Packer_addCopy_10 : decode prog_6_method_8_code 10 = .ok (.istore_n 1, 1) := by decide +kernel
theorem d_Packer_addCopy_11 : decode prog_6_method_8_code 11 = .ok (.aload_n 0, 1) := by decide +kernel
theorem d_Packer_addCopy_12 : decode prog_6_method_8_code 12 = .ok (.sipush 257, 3) := by decide +kernel
theorem d_Packer_addCopy_15 : decode prog_6_method_8_code 15 = .ok (.iload_n 1, 1) := by decide +kernel
theorem d_Packer_addCopy_16 : decode prog_6_method_8_code 16 = .ok (.iadd, 1) := by decide +kernel
theorem d_Packer_addCopy_17 : decode prog_6_method_8_code 17 = .ok (.invokevirtual 72, 3) := by decide +kernel
theorem d_Packer_addCopy_20 : decode prog_6_method_8_code 20 = .ok (.aload_n 0, 1) := by decide +kernel
theorem d_Packer_addCopy_21 : decode prog_6_method_8_code 21 = .ok (.aload_n 0, 1) := by decide +kernel
theorem d_Packer_addCopy_22 : decode prog_6_method_8_code 22 = .ok (.getfield 64, 3) := by decide +kernel
theorem d_Packer_addCopy_25 : decode prog_6_method_8_code 25 = .ok (.getstatic 93, 3) := by decide +kernel
theorem d_Packer_addCopy_28 : decode prog_6_method_8_code 28 = .ok (.iload_n 1, 1) := by decide +kernel
theorem d_Packer_addCopy_29 : decode prog_6_method_8_code 29 = .ok (.iaload, 1) := by decide +kernel
theorem d_Packer_addCopy_30 : decode prog_6_method_8_code 30 = .ok (.isub, 1) := by decide +kernel
theorem d_Packer_addCopy_31 : decode prog_6_method_8_code 31 = .ok (.getstatic 100, 3) := by decide +kernel
theorem d_Packer_addCopy_34 : decode prog_6_method_8_code 34 = .ok (.iload_n 1, 1) := by decide +kernel
theorem d_Packer_addCopy_35 : decode prog_6_method_8_code 35 = .ok (.iaload, 1) := by decide +kernel
theorem d_Packer_addCopy_36 : decode prog_6_method_8_code 36 = .ok (.invokevirtual 57, 3) := by decide +kernel
theorem d_Packer_addCopy_39 : decode prog_6_method_8_code 39 = .ok (.getstatic 103, 3) := by decide +kernel
theorem d_Packer_addCopy_42 : decode prog_6_method_8_code 42 = .ok (.aload_n 0, 1) := by decide +kernel
theorem d_Packer_addCopy_43 : decode prog_6_method_8_code 43 = .ok (.getfield 90, 3) := by decide +kernel
theorem d_Packer_addCopy_46 : decode prog_6_method_8_code 46 = .ok (.invokestatic 96, 3) := by decide +kernel
theorem d_Packer_addCopy_49 : decode prog_6_method_8_code 49 = .ok (.istore_n 2, 1) := by decide +kernel
theorem d_Packer_addCopy_50 : decode prog_6_method_8_code 50 = .ok (.aload_n 0, 1) := by decide +kernel
theorem d_Packer_addCopy_51 : decode prog_6_method_8_code 51 = .ok (.iload_n 2, 1) := by decide +kernel
theorem d_Packer_addCopy_52 : decode prog_6_method_8_code 52 = .ok (.iconst 5, 1) := by decide +kernel
theorem d_Packer_addCopy_53 : decode prog_6_method_8_code 53 = .ok (.invokestatic 106, 3) := by decide +kernel
theorem d_Packer_addCopy_56 : decode prog_6_method_8_code 56 = .ok (.iconst 5, 1) := by decide +kernel
theorem d_Packer_addCopy_57 : decode prog_6_method_8_code 57 = .ok (.invokevirtual 57, 3) := by decide +kernel
theorem d_Packer_addCopy_60 : decode prog_6_method_8_code 60 = .ok (.aload_n 0, 1) := by decide +kernel
theorem d_Packer_addCopy_61 : decode prog_6_method_8_code 61 = .ok (.aload_n 0, 1) := by decide +kernel
theorem d_Packer_addCopy_62 : decode prog_6_method_8_code 62 = .ok (.getfield 90, 3) := by decide +kernel
theorem d_Packer_addCopy_65 : decode prog_6_method_8_code 65 = .ok (.getstatic 103, 3) := by decide +kernel
theorem d_Packer_addCopy_68 : decode prog_6_method_8_code 68 = .ok (.iload_n 2, 1) := by decide +kernel
theorem d_Packer_addCopy_69 : decode prog_6_method_8_code 69 = .ok (.iaload, 1) := by decide +kernel
theorem d_Packer_addCopy_70 : decode prog_6_method_8_code 70 = .ok (.isub, 1) := by decide +kernel
theorem d_Packer_addCopy_71 : decode prog_6_method_8_code 71 = .ok (.getstatic 109, 3) := by decide +kernel
theorem d_Packer_addCopy_74 : decode prog_6_method_8_code 74 = .ok (.iload_n 2, 1) := by decide +kernel
theorem d_Packer_addCopy_75 : decode prog_6_method_8_code 75 = .ok (.iaload, 1) := by decide +kernel
theorem d_Packer_addCopy_76 : decode prog_6_method_8_code 76 = .ok (.invokevirtual 57, 3) := by decide +kernel
theorem d_Packer_addCopy_79 : decode prog_6_method_8_code 79 = .ok (.return_, 1) := by decide +kernel
set_option maxRecDepth 100000 in
set_option maxHeartbeats 4000000 in
theorem c_Packer_addCopy {l0 : Launch} (hl : l0.stackTraces = false) (n : Nat) (ids : List Nat) {t : Nat} (ht : mm_ok ids t 1 9)  (σ : Mm) : kw_C l0 y_Packer_addCopy (Cond.code y_Packer_addCopy prog_6_method_8_code 3 none :: kw_Ts) rm_Packer_addCopy kw_ov ids [] [.ref t] σ (F_Packer_addCopy n t σ) := by
  refine kw_start (L0 := [some (.ref t), none, none]) hl (by decide +kernel) (Nat.le_of_ble_eq_true rfl) rfl (fun Γ ad C Ce => ?_)
  unfold F_Packer_addCopy
  refine kw_gets C (Cn := "PictureFile$Codes") (n := "COPY_LENGTH") (dd := "[I") (o := 105) (List.mem_of_getElem? (i := 5) rfl) rfl gs_Packer_93 d_Packer_addCopy_0 ?_
  refine kw_aload_n C d_Packer_addCopy_3 rfl ?_
  refine kw_getI C fi_Packer_64 (Or.inl rfl) ht d_Packer_addCopy_4 ?_
  refine kw_callSi (cl' := 0) (sl' := 0) (As := [.ref 105, .int (gS σ (64 * t + 7))]) C (c_Packer_lastUpTo hl n ids (Or.inr rfl) (gS σ (64 * t + 7)) σ) mi_Packer_96 s_Packer_lastUpTo ⟨Nat.le_of_ble_eq_true rfl, Nat.le_of_ble_eq_true rfl⟩ (Nat.le_of_ble_eq_true rfl) ⟨Nat.le_of_ble_eq_true rfl, Nat.le_of_ble_eq_true rfl⟩ ⟨rfl, rfl⟩ rfl d_Packer_addCopy_7 (fun x1 σ2 => ?_)
  refine kw_istore_n (L' := [some (.ref t), some (.int x1), none]) C d_Packer_addCopy_10 (by decide) rfl ?_
  refine kw_aload_n C d_Packer_addCopy_11 rfl ?_
  refine kw_sipush (v := 257) C d_Packer_addCopy_12 (by decide) ?_
  refine kw_iload_n C d_Packer_addCopy_15 rfl ?_
  refine kw_iadd C d_Packer_addCopy_16 ?_
  refine kw_callVv (cl' := 0) (sl' := 0) (As := [.int ((257 : Int32) + x1)]) C (c_Packer_addSign hl n ids ht ((257 : Int32) + x1) σ2) mi_Packer_72 v_Packer_addSign ⟨_, _, rfl⟩ ht ⟨Nat.le_of_ble_eq_true rfl, Nat.le_of_ble_eq_true rfl⟩ (Nat.le_of_ble_eq_true rfl) ⟨Nat.le_of_ble_eq_true rfl, Nat.le_of_ble_eq_true rfl⟩ ⟨rfl, rfl⟩ rfl d_Packer_addCopy_17 (fun σ3 => ?_)
  refine kw_aload_n C d_Packer_addCopy_20 rfl ?_
  refine kw_aload_n C d_Packer_addCopy_21 rfl ?_
  refine kw_getI C fi_Packer_64 (Or.inl rfl) ht d_Packer_addCopy_22 ?_
  refine kw_gets C (Cn := "PictureFile$Codes") (n := "COPY_LENGTH") (dd := "[I") (o := 105) (List.mem_of_getElem? (i := 5) rfl) rfl gs_Packer_93 d_Packer_addCopy_25 ?_
  refine kw_iload_n C d_Packer_addCopy_28 rfl ?_
  refine kw_iald C (Or.inr rfl) d_Packer_addCopy_29 ?_
  refine kw_isub C d_Packer_addCopy_30 ?_
  refine kw_gets C (Cn := "PictureFile$Codes") (n := "COPY_LENGTH_BITS") (dd := "[I") (o := 106) (List.mem_of_getElem? (i := 6) rfl) rfl gs_Packer_100 d_Packer_addCopy_31 ?_
  refine kw_iload_n C d_Packer_addCopy_34 rfl ?_
  refine kw_iald C (Or.inr rfl) d_Packer_addCopy_35 ?_
  refine kw_callVv (cl' := 0) (sl' := 0) (As := [.int ((gS σ3 (64 * t + 7)) - (gB σ3 105 x1.toNatClampNeg)), .int (gB σ3 106 x1.toNatClampNeg)]) C (c_Packer_addBits hl n ids ht ((gS σ3 (64 * t + 7)) - (gB σ3 105 x1.toNatClampNeg)) (gB σ3 106 x1.toNatClampNeg) σ3) mi_Packer_57 v_Packer_addBits ⟨_, _, rfl⟩ ht ⟨Nat.le_of_ble_eq_true rfl, Nat.le_of_ble_eq_true rfl⟩ (Nat.le_of_ble_eq_true rfl) ⟨Nat.le_of_ble_eq_true rfl, Nat.le_of_ble_eq_true rfl⟩ ⟨rfl, rfl⟩ rfl d_Packer_addCopy_36 (fun σ4 => ?_)
  refine kw_gets C (Cn := "PictureFile$Codes") (n := "DISTANCE") (dd := "[I") (o := 107) (List.mem_of_getElem? (i := 7) rfl) rfl gs_Packer_103 d_Packer_addCopy_39 ?_
  refine kw_aload_n C d_Packer_addCopy_42 rfl ?_
  refine kw_getI C fi_Packer_90 (Or.inl rfl) ht d_Packer_addCopy_43 ?_
  refine kw_callSi (cl' := 0) (sl' := 0) (As := [.ref 107, .int (gS σ4 (64 * t + 8))]) C (c_Packer_lastUpTo hl n ids (Or.inr rfl) (gS σ4 (64 * t + 8)) σ4) mi_Packer_96 s_Packer_lastUpTo ⟨Nat.le_of_ble_eq_true rfl, Nat.le_of_ble_eq_true rfl⟩ (Nat.le_of_ble_eq_true rfl) ⟨Nat.le_of_ble_eq_true rfl, Nat.le_of_ble_eq_true rfl⟩ ⟨rfl, rfl⟩ rfl d_Packer_addCopy_46 (fun x5 σ6 => ?_)
  refine kw_istore_n (L' := [some (.ref t), some (.int x1), some (.int x5)]) C d_Packer_addCopy_49 (by decide) rfl ?_
  refine kw_aload_n C d_Packer_addCopy_50 rfl ?_
  refine kw_iload_n C d_Packer_addCopy_51 rfl ?_
  refine kw_iconst (v := 5) C d_Packer_addCopy_52 (by decide) ?_
  refine kw_callSi (cl' := 0) (sl' := 0) (As := [.int x5, .int 5]) C (c_Packer_turned hl n ids  x5 5 σ6) mi_Packer_106 s_Packer_turned ⟨Nat.le_of_ble_eq_true rfl, Nat.le_of_ble_eq_true rfl⟩ (Nat.le_of_ble_eq_true rfl) ⟨Nat.le_of_ble_eq_true rfl, Nat.le_of_ble_eq_true rfl⟩ ⟨rfl, rfl⟩ rfl d_Packer_addCopy_53 (fun x7 σ8 => ?_)
  refine kw_iconst (v := 5) C d_Packer_addCopy_56 (by decide) ?_
  refine kw_callVv (cl' := 0) (sl' := 0) (As := [.int x7, .int 5]) C (c_Packer_addBits hl n ids ht x7 5 σ8) mi_Packer_57 v_Packer_addBits ⟨_, _, rfl⟩ ht ⟨Nat.le_of_ble_eq_true rfl, Nat.le_of_ble_eq_true rfl⟩ (Nat.le_of_ble_eq_true rfl) ⟨Nat.le_of_ble_eq_true rfl, Nat.le_of_ble_eq_true rfl⟩ ⟨rfl, rfl⟩ rfl d_Packer_addCopy_57 (fun σ9 => ?_)
  refine kw_aload_n C d_Packer_addCopy_60 rfl ?_
  refine kw_aload_n C d_Packer_addCopy_61 rfl ?_
  refine kw_getI C fi_Packer_90 (Or.inl rfl) ht d_Packer_addCopy_62 ?_
  refine kw_gets C (Cn := "PictureFile$Codes") (n := "DISTANCE") (dd := "[I") (o := 107) (List.mem_of_getElem? (i := 7) rfl) rfl gs_Packer_103 d_Packer_addCopy_65 ?_
  refine kw_iload_n C d_Packer_addCopy_68 rfl ?_
  refine kw_iald C (Or.inr rfl) d_Packer_addCopy_69 ?_
  refine kw_isub C d_Packer_addCopy_70 ?_
  refine kw_gets C (Cn := "PictureFile$Codes") (n := "DISTANCE_BITS") (dd := "[I") (o := 108) (List.mem_of_getElem? (i := 8) rfl) rfl gs_Packer_109 d_Packer_addCopy_71 ?_
  refine kw_iload_n C d_Packer_addCopy_74 rfl ?_
  refine kw_iald C (Or.inr rfl) d_Packer_addCopy_75 ?_
  refine kw_callVv (cl' := 0) (sl' := 0) (As := [.int ((gS σ9 (64 * t + 8)) - (gB σ9 107 x5.toNatClampNeg)), .int (gB σ9 108 x5.toNatClampNeg)]) C (c_Packer_addBits hl n ids ht ((gS σ9 (64 * t + 8)) - (gB σ9 107 x5.toNatClampNeg)) (gB σ9 108 x5.toNatClampNeg) σ9) mi_Packer_57 v_Packer_addBits ⟨_, _, rfl⟩ ht ⟨Nat.le_of_ble_eq_true rfl, Nat.le_of_ble_eq_true rfl⟩ (Nat.le_of_ble_eq_true rfl) ⟨Nat.le_of_ble_eq_true rfl, Nat.le_of_ble_eq_true rfl⟩ ⟨rfl, rfl⟩ rfl d_Packer_addCopy_76 (fun σ10 => ?_)
  exact kw_vret C Ce rfl (by simp) (fun _ _ => rfl) (Nat.le_of_ble_eq_true rfl) (Nat.le_of_ble_eq_true rfl) rfl d_Packer_addCopy_79
/-! Packer_remember -/
def rm_Packer_remember : Room := { frames := 1, cells := 0, slots := 0, locals := 21 }
def F_Packer_remember (n : Nat) (t : Nat) (a0 : Int32) (σ : Mm) : Option (Mm) :=
kf_j (α := Unit) (fun x2 σ3 =>
some σ3) fun k1 =>
if (gS σ (64 * t + 4)) < (a0 + 3) then (
k1 () σ) else (
kf_c2 (F_Packer_hashAt n t a0 σ) fun x4 σ5 =>
Option.bind (gR σ5 (64 * t + 3)) fun o6 =>
Option.bind (gR σ5 (64 * t + 2)) fun o7 =>
kf_in x4 (mm_kd o7).2.2 <|
kf_in a0 (mm_kd o6).2.2 <| kf_let (pB σ5 o6 a0.toNatClampNeg (gB σ5 o7 x4.toNatClampNeg)) fun σ8 =>
Option.bind (gR σ8 (64 * t + 2)) fun o9 =>
kf_in x4 (mm_kd o9).2.2 <| kf_let (pB σ8 o9 x4.toNatClampNeg a0) fun σ10 =>
k1 () σ10)
theorem d_Packer_remember_0 : decode prog_6_method_5_code 0 = .ok (.iload_n 1, 1) := by decide +kernel
theorem d_Packer_remember_1 : decode prog_6_method_5_code 1 = .ok (.iconst 3, 1) := by decide +kernel
theorem d_Packer_remember_2 : decode prog_6_method_5_code 2 = .ok (.iadd, 1) := by decide +kernel
theorem d_Packer_remember_3 : decode prog_6_method_5_code 3 = .ok (.aload_n 0, 1) := by decide +kernel
theorem d_Packer_remember_4 : decode prog_6_method_5_code 4 = .ok (.getfield 28, 3) := by decide +kernel
theorem d_Packer_remember_7 : decode prog_6_method_5_code 7 = .ok (.if_icmp .gt 28, 3) := by decide +kernel
theorem d_Packer_remember_10 : decode prog_6_method_5_code 10 = .ok (.aload_n 0, 1) := by decide +kernel
theorem d_Packer_remember_11 : decode prog_6_method_5_code 11 = .ok (.iload_n 1, 1) := by decide +kernel
theorem d_Packer_remember_12 : decode prog_6_method_5_code 12 = .ok (.invokevirtual 78, 3) := by decide +kernel
theorem d_Packer_remember_15 : decode prog_6_method_5_code 15 = .ok (.istore_n 2, 1) := by decide +kernel
theorem d_Packer_remember_16 : decode prog_6_method_5_code 16 = .ok (.aload_n 0, 1) := by decide +kernel
theorem d_Packer_remember_17 : decode prog_6_method_5_code 17 = .ok (.getfield 18, 3) := by decide +kernel
theorem d_Packer_remember_20 : decode prog_6_method_5_code 20 = .ok (.iload_n 1, 1) := by decide +kernel
theorem d_Packer_remember_21 : decode prog_6_method_5_code 21 = .ok (.aload_n 0, 1) := by decide +kernel
theorem d_Packer_remember_22 : decode prog_6_method_5_code 22 = .ok (.getfield 11, 3) := by decide +kernel
theorem d_Packer_remember_25 : decode prog_6_method_5_code 25 = .ok (.iload_n 2, 1) := by decide +kernel
theorem d_Packer_remember_26 : decode prog_6_method_5_code 26 = .ok (.iaload, 1) := by decide +kernel
theorem d_Packer_remember_27 : decode prog_6_method_5_code 27 = .ok (.iastore, 1) := by decide +kernel
theorem d_Packer_remember_28 : decode prog_6_method_5_code 28 = .ok (.aload_n 0, 1) := by decide +kernel
theorem d_Packer_remember_29 : decode prog_6_method_5_code 29 = .ok (.getfield 11, 3) := by decide +kernel
theorem d_Packer_remember_32 : decode prog_6_method_5_code 32 = .ok (.iload_n 2, 1) := by decide +kernel
theorem d_Packer_remember_33 : decode prog_6_method_5_code 33 = .ok (.iload_n 1, 1) := by decide +kernel
theorem d_Packer_remember_34 : decode prog_6_method_5_code 34 = .ok (.iastore, 1) := by decide +kernel
theorem d_Packer_remember_35 : decode prog_6_method_5_code 35 = .ok (.return_, 1) := by decide +kernel
set_option maxRecDepth 100000 in
set_option maxHeartbeats 4000000 in
theorem c_Packer_remember {l0 : Launch} (hl : l0.stackTraces = false) (n : Nat) (ids : List Nat) {t : Nat} (ht : mm_ok ids t 1 9) (a0 : Int32) (σ : Mm) : kw_C l0 y_Packer_remember (Cond.code y_Packer_remember prog_6_method_5_code 3 none :: kw_Ts) rm_Packer_remember kw_ov ids [] [.ref t, .int a0] σ (F_Packer_remember n t a0 σ) := by
  refine kw_start (L0 := [some (.ref t), some (.int a0), none]) hl (by decide +kernel) (Nat.le_of_ble_eq_true rfl) rfl (fun Γ ad C Ce => ?_)
  unfold F_Packer_remember
  refine kw_iload_n C d_Packer_remember_0 rfl ?_
  refine kw_iconst (v := 3) C d_Packer_remember_1 (by decide) ?_
  refine kw_iadd C d_Packer_remember_2 ?_
  refine kw_aload_n C d_Packer_remember_3 rfl ?_
  refine kw_getI C fi_Packer_28 (Or.inl rfl) ht d_Packer_remember_4 ?_
  refine kw_j (α := Unit) (pcj := 35) (Lj := fun x2 => [none, none, none]) (stj := fun x2 => []) (fun x2 σ3 => ?_) (fun k1 hk1 => ?_)
  · exact kw_vret C Ce rfl (by simp) (fun _ _ => rfl) (Nat.le_of_ble_eq_true rfl) (Nat.le_of_ble_eq_true rfl) rfl d_Packer_remember_35
  · refine kw_icmp_gt (tgt := 35) C d_Packer_remember_7 (by decide) ?_ ?_
    · exact kw_wk (hk1 () σ) ⟨Or.inl rfl, Or.inl rfl, Or.inl rfl, trivial⟩
    · refine kw_aload_n C d_Packer_remember_10 rfl ?_
      refine kw_iload_n C d_Packer_remember_11 rfl ?_
      refine kw_callVi (cl' := 0) (sl' := 0) (As := [.int a0]) C (c_Packer_hashAt hl n ids ht a0 σ) mi_Packer_78 v_Packer_hashAt ⟨_, _, rfl⟩ ht ⟨Nat.le_of_ble_eq_true rfl, Nat.le_of_ble_eq_true rfl⟩ (Nat.le_of_ble_eq_true rfl) ⟨Nat.le_of_ble_eq_true rfl, Nat.le_of_ble_eq_true rfl⟩ ⟨rfl, rfl⟩ rfl d_Packer_remember_12 (fun x4 σ5 => ?_)
      refine kw_istore_n (L' := [some (.ref t), some (.int a0), some (.int x4)]) C d_Packer_remember_15 (by decide) rfl ?_
      refine kw_aload_n C d_Packer_remember_16 rfl ?_
      refine kw_getR C fi_Packer_18 rfl rfl ht d_Packer_remember_17 (fun o6 ho6 => ?_)
      refine kw_iload_n C d_Packer_remember_20 rfl ?_
      refine kw_aload_n C d_Packer_remember_21 rfl ?_
      refine kw_getR C fi_Packer_11 rfl rfl ht d_Packer_remember_22 (fun o7 ho7 => ?_)
      refine kw_iload_n C d_Packer_remember_25 rfl ?_
      refine kw_iald C (Or.inl ⟨ho7.1, ho7.2.1⟩) d_Packer_remember_26 ?_
      refine kw_iast C ho6 d_Packer_remember_27 (fun σ8 => ?_)
      refine kw_aload_n C d_Packer_remember_28 rfl ?_
      refine kw_getR C fi_Packer_11 rfl rfl ht d_Packer_remember_29 (fun o9 ho9 => ?_)
      refine kw_iload_n C d_Packer_remember_32 rfl ?_
      refine kw_iload_n C d_Packer_remember_33 rfl ?_
      refine kw_iast C ho9 d_Packer_remember_34 (fun σ10 => ?_)
      exact kw_wk (hk1 () σ10) ⟨Or.inl rfl, Or.inl rfl, Or.inl rfl, trivial⟩
/-! Packer_packShort -/
def rm_Packer_packShort : Room := { frames := 4, cells := 0, slots := 0, locals := 87 }
def F_Packer_packShort (n : Nat) (t : Nat) (a0 : Int32) (σ : Mm) : Option (Mm) :=
kf_let (pS σ (64 * t + 4) a0) fun σ1 =>
kf_let (pS σ1 (64 * t + 5) 0) fun σ2 =>
kf_let (pS σ2 (64 * t + 6) 0) fun σ3 =>
Option.bind (gR σ3 (64 * t + 2)) fun o4 =>
Option.bind (F_Arr_fill n o4 (-1) σ3) fun σ5 =>
Option.bind (F_Packer_addBits n t 1 1 σ5) fun σ6 =>
Option.bind (F_Packer_addBits n t 1 2 σ6) fun σ7 =>
kf_l (α := Int32 × Int32) n (fun k8 x9 σ10 =>
kf_j (α := Unit) (fun x12 σ13 =>
Option.bind (F_Packer_addSign n t 256 σ13) fun σ14 =>
kf_j (α := Unit) (fun x16 σ17 =>
some σ17) fun k15 =>
if (gS σ14 (64 * t + 6)) ≤ 0 then (
k15 () σ14) else (
Option.bind (F_Packer_addBits n t 0 ((8 : Int32) - (gS σ14 (64 * t + 6))) σ14) fun σ18 =>
k15 () σ18)) fun k11 =>
if (gS σ10 (64 * t + 4)) ≤ x9.2 then (
k11 () σ10) else (
if (gS σ10 (64 * t + 4)) ≤ x9.1 then (
k11 () σ10) else (
Option.bind (F_Packer_findCopy n t x9.1 σ10) fun σ19 =>
kf_j (α := Int32) (fun x21 σ22 =>
kf_l (α := Int32 × Int32) n (fun k23 x24 σ25 =>
if x21 ≤ x24.2 then (
kf_let (x9.2 + Int32.ofInt 1) fun x26 =>
k8 (x24.1, x26) σ25) else (
Option.bind (F_Packer_remember n t x24.1 σ25) fun σ27 =>
kf_let (x24.1 + Int32.ofInt 1) fun x28 =>
kf_let (x24.2 + Int32.ofInt 1) fun x29 =>
k23 (x28, x29) σ27)) (x9.1, 0) σ22) fun k20 =>
if (gS σ19 (64 * t + 7)) < 3 then (
Option.bind (gR σ19 (64 * t + 1)) fun o30 =>
kf_in x9.1 (mm_kd o30).2.2 <|
Option.bind (F_Packer_addSign n t (gB σ19 o30 x9.1.toNatClampNeg) σ19) fun σ31 =>
k20 1 σ31) else (
kf_let (gS σ19 (64 * t + 7) : Int32) fun x32 =>
Option.bind (F_Packer_addCopy n t σ19) fun σ33 =>
k20 x32 σ33)))) (0, 0) σ7
theorem d_Packer_packShort_0 : decode prog_6_method_3_code 0 = .ok (.aload_n 0, 1) := by decide +kernel
theorem d_Packer_packShort_1 : decode prog_6_method_3_code 1 = .ok (.iload_n 1, 1) := by decide +kernel
theorem d_Packer_packShort_2 : decode prog_6_method_3_code 2 = .ok (.putfield 28, 3) := by decide +kernel
theorem d_Packer_packShort_5 : decode prog_6_method_3_code 5 = .ok (.aload_n 0, 1) := by decide +kernel
theorem d_Packer_packShort_6 : decode prog_6_method_3_code 6 = .ok (.iconst 0, 1) := by decide +kernel
theorem d_Packer_packShort_7 : decode prog_6_method_3_code 7 = .ok (.putfield 45, 3) := by decide +kernel
theorem d_Packer_packShort_10 : decode prog_6_method_3_code 10 = .ok (.aload_n 0, 1) := by decide +kernel
theorem d_Packer_packShort_11 : decode prog_6_method_3_code 11 = .ok (.iconst 0, 1) := by decide +kernel
theorem d_Packer_packShort_12 : decode prog_6_method_3_code 12 = .ok (.putfield 48, 3) := by decide +kernel
theorem d_Packer_packShort_15 : decode prog_6_method_3_code 15 = .ok (.aload_n 0, 1) := by decide +kernel
theorem d_Packer_packShort_16 : decode prog_6_method_3_code 16 = .ok (.getfield 11, 3) := by decide +kernel
theorem d_Packer_packShort_19 : decode prog_6_method_3_code 19 = .ok (.iconst (-1), 1) := by decide +kernel
theorem d_Packer_packShort_20 : decode prog_6_method_3_code 20 = .ok (.invokestatic 51, 3) := by decide +kernel
theorem d_Packer_packShort_23 : decode prog_6_method_3_code 23 = .ok (.aload_n 0, 1) := by decide +kernel
theorem d_Packer_packShort_24 : decode prog_6_method_3_code 24 = .ok (.iconst 1, 1) := by decide +kernel
theorem d_Packer_packShort_25 : decode prog_6_method_3_code 25 = .ok (.iconst 1, 1) := by decide +kernel
theorem d_Packer_packShort_26 : decode prog_6_method_3_code 26 = .ok (.invokevirtual 57, 3) := by decide +kernel
theorem d_Packer_packShort_29 : decode prog_6_method_3_code 29 = .ok (.aload_n 0, 1) := by decide +kernel
theorem d_Packer_packShort_30 : decode prog_6_method_3_code 30 = .ok (.iconst 1, 1) := by decide +kernel
theorem d_Packer_packShort_31 : decode prog_6_method_3_code 31 = .ok (.iconst 2, 1) := by decide +kernel
theorem d_Packer_packShort_32 : decode prog_6_method_3_code 32 = .ok (.invokevirtual 57, 3) := by decide +kernel
theorem d_Packer_packShort_35 : decode prog_6_method_3_code 35 = .ok (.iconst 0, 1) := by decide +kernel
theorem d_Packer_packShort_36 : decode prog_6_method_3_code 36 = .ok (.istore_n 2, 1) := by decide +kernel
theorem d_Packer_packShort_37 : decode prog_6_method_3_code 37 = .ok (.iconst 0, 1) := by decide +kernel
theorem d_Packer_packShort_38 : decode prog_6_method_3_code 38 = .ok (.istore_n 3, 1) := by decide +kernel
theorem d_Packer_packShort_39 : decode prog_6_method_3_code 39 = .ok (.iload_n 3, 1) := by decide +kernel
theorem d_Packer_packShort_40 : decode prog_6_method_3_code 40 = .ok (.aload_n 0, 1) := by decide +kernel
theorem d_Packer_packShort_41 : decode prog_6_method_3_code 41 = .ok (.getfield 28, 3) := by decide +kernel
theorem d_Packer_packShort_44 : decode prog_6_method_3_code 44 = .ok (.if_icmp .ge 80, 3) := by decide +kernel
theorem d_Packer_packShort_47 : decode prog_6_method_3_code 47 = .ok (.iload_n 2, 1) := by decide +kernel
theorem d_Packer_packShort_48 : decode prog_6_method_3_code 48 = .ok (.aload_n 0, 1) := by decide +kernel
theorem d_Packer_packShort_49 : decode prog_6_method_3_code 49 = .ok (.getfield 28, 3) := by decide +kernel
theorem d_Packer_packShort_52 : decode prog_6_method_3_code 52 = .ok (.if_icmp .ge 72, 3) := by decide +kernel
theorem d_Packer_packShort_55 : decode prog_6_method_3_code 55 = .ok (.aload_n 0, 1) := by decide +kernel
theorem d_Packer_packShort_56 : decode prog_6_method_3_code 56 = .ok (.iload_n 2, 1) := by decide +kernel
theorem d_Packer_packShort_57 : decode prog_6_method_3_code 57 = .ok (.invokevirtual 61, 3) := by decide +kernel
theorem d_Packer_packShort_60 : decode prog_6_method_3_code 60 = .ok (.iconst 1, 1) := by decide +kernel
theorem d_Packer_packShort_61 : decode prog_6_method_3_code 61 = .ok (.istore 4, 2) := by decide +kernel
theorem d_Packer_packShort_63 : decode prog_6_method_3_code 63 = .ok (.aload_n 0, 1) := by decide +kernel
theorem d_Packer_packShort_64 : decode prog_6_method_3_code 64 = .ok (.getfield 64, 3) := by decide +kernel
theorem d_Packer_packShort_67 : decode prog_6_method_3_code 67 = .ok (.iconst 3, 1) := by decide +kernel
theorem d_Packer_packShort_68 : decode prog_6_method_3_code 68 = .ok (.if_icmp .lt 16, 3) := by decide +kernel
theorem d_Packer_packShort_71 : decode prog_6_method_3_code 71 = .ok (.aload_n 0, 1) := by decide +kernel
theorem d_Packer_packShort_72 : decode prog_6_method_3_code 72 = .ok (.getfield 64, 3) := by decide +kernel
theorem d_Packer_packShort_75 : decode prog_6_method_3_code 75 = .ok (.istore 4, 2) := by decide +kernel
theorem d_Packer_packShort_77 : decode prog_6_method_3_code 77 = .ok (.aload_n 0, 1) := by decide +kernel
theorem d_Packer_packShort_78 : decode prog_6_method_3_code 78 = .ok (.invokevirtual 69, 3) := by decide +kernel
theorem d_Packer_packShort_81 : decode prog_6_method_3_code 81 = .ok (.goto 13, 3) := by decide +kernel
theorem d_Packer_packShort_84 : decode prog_6_method_3_code 84 = .ok (.aload_n 0, 1) := by decide +kernel
theorem d_Packer_packShort_85 : decode prog_6_method_3_code 85 = .ok (.aload_n 0, 1) := by decide +kernel
theorem d_Packer_packShort_86 : decode prog_6_method_3_code 86 = .ok (.getfield 25, 3) := by decide +kernel
theorem d_Packer_packShort_89 : decode prog_6_method_3_code 89 = .ok (.iload_n 2, 1) := by decide +kernel
theorem d_Packer_packShort_90 : decode prog_6_method_3_code 90 = .ok (.iaload, 1) := by decide +kernel
theorem d_Packer_packShort_91 : decode prog_6_method_3_code 91 = .ok (.invokevirtual 72, 3) := by decide +kernel
theorem d_Packer_packShort_94 : decode prog_6_method_3_code 94 = .ok (.iconst 0, 1) := by decide +kernel
theorem d_Packer_packShort_95 : decode prog_6_method_3_code 95 = .ok (.istore 5, 2) := by decide +kernel
theorem d_Packer_packShort_97 : decode prog_6_method_3_code 97 = .ok (.iload 5, 2) := by decide +kernel
theorem d_Packer_packShort_99 : decode prog_6_method_3_code 99 = .ok (.iload 4, 2) := by decide +kernel
theorem d_Packer_packShort_101 : decode prog_6_method_3_code 101 = .ok (.if_icmp .ge 17, 3) := by decide +kernel
theorem d_Packer_packShort_104 : decode prog_6_method_3_code 104 = .ok (.aload_n 0, 1) := by decide +kernel
theorem d_Packer_packShort_105 : decode prog_6_method_3_code 105 = .ok (.iload_n 2, 1) := by decide +kernel
theorem d_Packer_packShort_106 : decode prog_6_method_3_code 106 = .ok (.invokevirtual 75, 3) := by decide +kernel
theorem d_Packer_packShort_109 : decode prog_6_method_3_code 109 = .ok (.iinc 2 1, 3) := by decide +kernel
theorem d_Packer_packShort_112 : decode prog_6_method_3_code 112 = .ok (.iinc 5 1, 3) := by decide +kernel
theorem d_Packer_packShort_115 : decode prog_6_method_3_code 115 = .ok (.goto (-18), 3) := by decide +kernel
theorem d_Packer_packShort_118 : decode prog_6_method_3_code 118 = .ok (.iinc 3 1, 3) := by decide +kernel
theorem d_Packer_packShort_121 : decode prog_6_method_3_code 121 = .ok (.goto (-82), 3) := by decide +kernel
theorem d_Packer_packShort_124 : decode prog_6_method_3_code 124 = .ok (.aload_n 0, 1) := by decide +kernel
theorem d_Packer_packShort_125 : decode prog_6_method_3_code 125 = .ok (.sipush 256, 3) := by decide +kernel
theorem d_Packer_packShort_128 : decode prog_6_method_3_code 128 = .ok (.invokevirtual 72, 3) := by decide +kernel
theorem d_Packer_packShort_131 : decode prog_6_method_3_code 131 = .ok (.aload_n 0, 1) := by decide +kernel
theorem d_Packer_packShort_132 : decode prog_6_method_3_code 132 = .ok (.getfield 48, 3) := by decide +kernel
theorem d_Packer_packShort_135 : decode prog_6_method_3_code 135 = .ok (.ifCond .le 15, 3) := by decide +kernel
theorem d_Packer_packShort_138 : decode prog_6_method_3_code 138 = .ok (.aload_n 0, 1) := by decide +kernel
theorem d_Packer_packShort_139 : decode prog_6_method_3_code 139 = .ok (.iconst 0, 1) := by decide +kernel
theorem d_Packer_packShort_140 : decode prog_6_method_3_code 140 = .ok (.bipush 8, 2) := by decide +kernel
theorem d_Packer_packShort_142 : decode prog_6_method_3_code 142 = .ok (.aload_n 0, 1) := by decide +kernel
theorem d_Packer_packShort_143 : decode prog_6_method_3_code 143 = .ok (.getfield 48, 3) := by decide +kernel
theorem d_Packer_packShort_146 : decode prog_6_method_3_code 146 = .ok (.isub, 1) := by decide +kernel
theorem d_Packer_packShort_147 : decode prog_6_method_3_code 147 = .ok (.invokevirtual 57, 3) := by decide +kernel
theorem d_Packer_packShort_150 : decode prog_6_method_3_code 150 = .ok (.return_, 1) := by decide +kernel
set_option maxRecDepth 100000 in
set_option maxHeartbeats 4000000 in
theorem c_Packer_packShort {l0 : Launch} (hl : l0.stackTraces = false) (n : Nat) (ids : List Nat) {t : Nat} (ht : mm_ok ids t 1 9) (a0 : Int32) (σ : Mm) : kw_C l0 y_Packer_packShort (Cond.code y_Packer_packShort prog_6_method_3_code 6 none :: kw_Ts) rm_Packer_packShort kw_ov ids [] [.ref t, .int a0] σ (F_Packer_packShort n t a0 σ) := by
  refine kw_start (L0 := [some (.ref t), some (.int a0), none, none, none, none]) hl (by decide +kernel) (Nat.le_of_ble_eq_true rfl) rfl (fun Γ ad C Ce => ?_)
  unfold F_Packer_packShort
  refine kw_aload_n C d_Packer_packShort_0 rfl ?_
  refine kw_iload_n C d_Packer_packShort_1 rfl ?_
  refine kw_putI C fi_Packer_28 rfl ht d_Packer_packShort_2 (fun σ1 => ?_)
  refine kw_aload_n C d_Packer_packShort_5 rfl ?_
  refine kw_iconst (v := 0) C d_Packer_packShort_6 (by decide) ?_
  refine kw_putI C fi_Packer_45 rfl ht d_Packer_packShort_7 (fun σ2 => ?_)
  refine kw_aload_n C d_Packer_packShort_10 rfl ?_
  refine kw_iconst (v := 0) C d_Packer_packShort_11 (by decide) ?_
  refine kw_putI C fi_Packer_48 rfl ht d_Packer_packShort_12 (fun σ3 => ?_)
  refine kw_aload_n C d_Packer_packShort_15 rfl ?_
  refine kw_getR C fi_Packer_11 rfl rfl ht d_Packer_packShort_16 (fun o4 ho4 => ?_)
  refine kw_iconst (v := -1) C d_Packer_packShort_19 (by decide) ?_
  refine kw_callSv (cl' := 0) (sl' := 0) (As := [.ref o4, .int (-1)]) C (c_Arr_fill hl n ids ho4 (-1) σ3) mi_Packer_51 s_Arr_fill ⟨Nat.le_of_ble_eq_true rfl, Nat.le_of_ble_eq_true rfl⟩ (Nat.le_of_ble_eq_true rfl) ⟨Nat.le_of_ble_eq_true rfl, Nat.le_of_ble_eq_true rfl⟩ ⟨rfl, rfl⟩ rfl d_Packer_packShort_20 (fun σ5 => ?_)
  refine kw_aload_n C d_Packer_packShort_23 rfl ?_
  refine kw_iconst (v := 1) C d_Packer_packShort_24 (by decide) ?_
  refine kw_iconst (v := 1) C d_Packer_packShort_25 (by decide) ?_
  refine kw_callVv (cl' := 0) (sl' := 0) (As := [.int 1, .int 1]) C (c_Packer_addBits hl n ids ht 1 1 σ5) mi_Packer_57 v_Packer_addBits ⟨_, _, rfl⟩ ht ⟨Nat.le_of_ble_eq_true rfl, Nat.le_of_ble_eq_true rfl⟩ (Nat.le_of_ble_eq_true rfl) ⟨Nat.le_of_ble_eq_true rfl, Nat.le_of_ble_eq_true rfl⟩ ⟨rfl, rfl⟩ rfl d_Packer_packShort_26 (fun σ6 => ?_)
  refine kw_aload_n C d_Packer_packShort_29 rfl ?_
  refine kw_iconst (v := 1) C d_Packer_packShort_30 (by decide) ?_
  refine kw_iconst (v := 2) C d_Packer_packShort_31 (by decide) ?_
  refine kw_callVv (cl' := 0) (sl' := 0) (As := [.int 1, .int 2]) C (c_Packer_addBits hl n ids ht 1 2 σ6) mi_Packer_57 v_Packer_addBits ⟨_, _, rfl⟩ ht ⟨Nat.le_of_ble_eq_true rfl, Nat.le_of_ble_eq_true rfl⟩ (Nat.le_of_ble_eq_true rfl) ⟨Nat.le_of_ble_eq_true rfl, Nat.le_of_ble_eq_true rfl⟩ ⟨rfl, rfl⟩ rfl d_Packer_packShort_32 (fun σ7 => ?_)
  refine kw_iconst (v := 0) C d_Packer_packShort_35 (by decide) ?_
  refine kw_istore_n (L' := [some (.ref t), some (.int a0), some (.int 0), none, none, none]) C d_Packer_packShort_36 (by decide) rfl ?_
  refine kw_iconst (v := 0) C d_Packer_packShort_37 (by decide) ?_
  refine kw_istore_n (L' := [some (.ref t), some (.int a0), some (.int 0), some (.int 0), none, none]) C d_Packer_packShort_38 (by decide) rfl ?_
  refine kw_wk (kw_l (α := Int32 × Int32) (pc := 39) (Lj := fun x9 => [some (.ref t), none, some (.int x9.1), some (.int x9.2), none, none]) (stj := fun x9 => []) (fun k8 hk8 x9 σ10 => ?_) n (0, 0) σ7) ⟨Or.inr rfl, Or.inl rfl, Or.inr rfl, Or.inr rfl, Or.inl rfl, Or.inl rfl, trivial⟩
  refine kw_iload_n C d_Packer_packShort_39 rfl ?_
  refine kw_aload_n C d_Packer_packShort_40 rfl ?_
  refine kw_getI C fi_Packer_28 (Or.inl rfl) ht d_Packer_packShort_41 ?_
  refine kw_j (α := Unit) (pcj := 124) (Lj := fun x12 => [some (.ref t), none, none, none, none, none]) (stj := fun x12 => []) (fun x12 σ13 => ?_) (fun k11 hk11 => ?_)
  · refine kw_aload_n C d_Packer_packShort_124 rfl ?_
    refine kw_sipush (v := 256) C d_Packer_packShort_125 (by decide) ?_
    refine kw_callVv (cl' := 0) (sl' := 0) (As := [.int 256]) C (c_Packer_addSign hl n ids ht 256 σ13) mi_Packer_72 v_Packer_addSign ⟨_, _, rfl⟩ ht ⟨Nat.le_of_ble_eq_true rfl, Nat.le_of_ble_eq_true rfl⟩ (Nat.le_of_ble_eq_true rfl) ⟨Nat.le_of_ble_eq_true rfl, Nat.le_of_ble_eq_true rfl⟩ ⟨rfl, rfl⟩ rfl d_Packer_packShort_128 (fun σ14 => ?_)
    refine kw_aload_n C d_Packer_packShort_131 rfl ?_
    refine kw_getI C fi_Packer_48 (Or.inl rfl) ht d_Packer_packShort_132 ?_
    refine kw_j (α := Unit) (pcj := 150) (Lj := fun x16 => [none, none, none, none, none, none]) (stj := fun x16 => []) (fun x16 σ17 => ?_) (fun k15 hk15 => ?_)
    · exact kw_vret C Ce rfl (by simp) (fun _ _ => rfl) (Nat.le_of_ble_eq_true rfl) (Nat.le_of_ble_eq_true rfl) rfl d_Packer_packShort_150
    · refine kw_if_le (tgt := 150) C d_Packer_packShort_135 (by decide) ?_ ?_
      · exact kw_wk (hk15 () σ14) ⟨Or.inl rfl, Or.inl rfl, Or.inl rfl, Or.inl rfl, Or.inl rfl, Or.inl rfl, trivial⟩
      · refine kw_aload_n C d_Packer_packShort_138 rfl ?_
        refine kw_iconst (v := 0) C d_Packer_packShort_139 (by decide) ?_
        refine kw_bipush (v := 8) C d_Packer_packShort_140 (by decide) ?_
        refine kw_aload_n C d_Packer_packShort_142 rfl ?_
        refine kw_getI C fi_Packer_48 (Or.inl rfl) ht d_Packer_packShort_143 ?_
        refine kw_isub C d_Packer_packShort_146 ?_
        refine kw_callVv (cl' := 0) (sl' := 0) (As := [.int 0, .int ((8 : Int32) - (gS σ14 (64 * t + 6)))]) C (c_Packer_addBits hl n ids ht 0 ((8 : Int32) - (gS σ14 (64 * t + 6))) σ14) mi_Packer_57 v_Packer_addBits ⟨_, _, rfl⟩ ht ⟨Nat.le_of_ble_eq_true rfl, Nat.le_of_ble_eq_true rfl⟩ (Nat.le_of_ble_eq_true rfl) ⟨Nat.le_of_ble_eq_true rfl, Nat.le_of_ble_eq_true rfl⟩ ⟨rfl, rfl⟩ rfl d_Packer_packShort_147 (fun σ18 => ?_)
        exact kw_wk (hk15 () σ18) ⟨Or.inl rfl, Or.inl rfl, Or.inl rfl, Or.inl rfl, Or.inl rfl, Or.inl rfl, trivial⟩
  · refine kw_icmp_ge (tgt := 124) C d_Packer_packShort_44 (by decide) ?_ ?_
    · exact kw_wk (hk11 () σ10) ⟨Or.inr rfl, Or.inl rfl, Or.inl rfl, Or.inl rfl, Or.inl rfl, Or.inl rfl, trivial⟩
    · refine kw_iload_n C d_Packer_packShort_47 rfl ?_
      refine kw_aload_n C d_Packer_packShort_48 rfl ?_
      refine kw_getI C fi_Packer_28 (Or.inl rfl) ht d_Packer_packShort_49 ?_
      refine kw_icmp_ge (tgt := 124) C d_Packer_packShort_52 (by decide) ?_ ?_
      · exact kw_wk (hk11 () σ10) ⟨Or.inr rfl, Or.inl rfl, Or.inl rfl, Or.inl rfl, Or.inl rfl, Or.inl rfl, trivial⟩
      · refine kw_aload_n C d_Packer_packShort_55 rfl ?_
        refine kw_iload_n C d_Packer_packShort_56 rfl ?_
        refine kw_callVv (cl' := 0) (sl' := 0) (As := [.int x9.1]) C (c_Packer_findCopy hl n ids ht x9.1 σ10) mi_Packer_61 v_Packer_findCopy ⟨_, _, rfl⟩ ht ⟨Nat.le_of_ble_eq_true rfl, Nat.le_of_ble_eq_true rfl⟩ (Nat.le_of_ble_eq_true rfl) ⟨Nat.le_of_ble_eq_true rfl, Nat.le_of_ble_eq_true rfl⟩ ⟨rfl, rfl⟩ rfl d_Packer_packShort_57 (fun σ19 => ?_)
        refine kw_iconst (v := 1) C d_Packer_packShort_60 (by decide) ?_
        refine kw_istore (L' := [some (.ref t), none, some (.int x9.1), some (.int x9.2), some (.int 1), none]) C d_Packer_packShort_61 (by decide) rfl ?_
        refine kw_aload_n C d_Packer_packShort_63 rfl ?_
        refine kw_getI C fi_Packer_64 (Or.inl rfl) ht d_Packer_packShort_64 ?_
        refine kw_iconst (v := 3) C d_Packer_packShort_67 (by decide) ?_
        refine kw_j (α := Int32) (pcj := 94) (Lj := fun x21 => [some (.ref t), none, some (.int x9.1), some (.int x9.2), some (.int x21), none]) (stj := fun x21 => []) (fun x21 σ22 => ?_) (fun k20 hk20 => ?_)
        · refine kw_iconst (v := 0) C d_Packer_packShort_94 (by decide) ?_
          refine kw_istore (L' := [some (.ref t), none, some (.int x9.1), some (.int x9.2), some (.int x21), some (.int 0)]) C d_Packer_packShort_95 (by decide) rfl ?_
          refine kw_wk (kw_l (α := Int32 × Int32) (pc := 97) (Lj := fun x24 => [some (.ref t), none, some (.int x24.1), some (.int x9.2), some (.int x21), some (.int x24.2)]) (stj := fun x24 => []) (fun k23 hk23 x24 σ25 => ?_) n (x9.1, 0) σ22) ⟨Or.inr rfl, Or.inl rfl, Or.inr rfl, Or.inr rfl, Or.inr rfl, Or.inr rfl, trivial⟩
          refine kw_iload C d_Packer_packShort_97 rfl ?_
          refine kw_iload C d_Packer_packShort_99 rfl ?_
          refine kw_icmp_ge (tgt := 118) C d_Packer_packShort_101 (by decide) ?_ ?_
          · refine kw_iincL (L2 := fun x26 => [some (.ref t), none, some (.int x24.1), some (.int x26), some (.int x21), some (.int x24.2)]) C d_Packer_packShort_118 (by decide) rfl (fun _ => rfl) (fun x26 => ?_)
            refine kw_goto (tgt := 39) C d_Packer_packShort_121 (by decide) ?_
            exact kw_wk (hk8 (x24.1, x26) σ25) ⟨Or.inr rfl, Or.inl rfl, Or.inr rfl, Or.inr rfl, Or.inl rfl, Or.inl rfl, trivial⟩
          · refine kw_aload_n C d_Packer_packShort_104 rfl ?_
            refine kw_iload_n C d_Packer_packShort_105 rfl ?_
            refine kw_callVv (cl' := 0) (sl' := 0) (As := [.int x24.1]) C (c_Packer_remember hl n ids ht x24.1 σ25) mi_Packer_75 v_Packer_remember ⟨_, _, rfl⟩ ht ⟨Nat.le_of_ble_eq_true rfl, Nat.le_of_ble_eq_true rfl⟩ (Nat.le_of_ble_eq_true rfl) ⟨Nat.le_of_ble_eq_true rfl, Nat.le_of_ble_eq_true rfl⟩ ⟨rfl, rfl⟩ rfl d_Packer_packShort_106 (fun σ27 => ?_)
            refine kw_iincL (L2 := fun x28 => [some (.ref t), none, some (.int x28), some (.int x9.2), some (.int x21), some (.int x24.2)]) C d_Packer_packShort_109 (by decide) rfl (fun _ => rfl) (fun x28 => ?_)
            refine kw_iincL (L2 := fun x29 => [some (.ref t), none, some (.int x28), some (.int x9.2), some (.int x21), some (.int x29)]) C d_Packer_packShort_112 (by decide) rfl (fun _ => rfl) (fun x29 => ?_)
            refine kw_goto (tgt := 97) C d_Packer_packShort_115 (by decide) ?_
            exact kw_wk (hk23 (x28, x29) σ27) ⟨Or.inr rfl, Or.inl rfl, Or.inr rfl, Or.inr rfl, Or.inr rfl, Or.inr rfl, trivial⟩
        · refine kw_icmp_lt (tgt := 84) C d_Packer_packShort_68 (by decide) ?_ ?_
          · refine kw_aload_n C d_Packer_packShort_84 rfl ?_
            refine kw_aload_n C d_Packer_packShort_85 rfl ?_
            refine kw_getR C fi_Packer_25 rfl rfl ht d_Packer_packShort_86 (fun o30 ho30 => ?_)
            refine kw_iload_n C d_Packer_packShort_89 rfl ?_
            refine kw_iald C (Or.inl ⟨ho30.1, ho30.2.1⟩) d_Packer_packShort_90 ?_
            refine kw_callVv (cl' := 0) (sl' := 0) (As := [.int (gB σ19 o30 x9.1.toNatClampNeg)]) C (c_Packer_addSign hl n ids ht (gB σ19 o30 x9.1.toNatClampNeg) σ19) mi_Packer_72 v_Packer_addSign ⟨_, _, rfl⟩ ht ⟨Nat.le_of_ble_eq_true rfl, Nat.le_of_ble_eq_true rfl⟩ (Nat.le_of_ble_eq_true rfl) ⟨Nat.le_of_ble_eq_true rfl, Nat.le_of_ble_eq_true rfl⟩ ⟨rfl, rfl⟩ rfl d_Packer_packShort_91 (fun σ31 => ?_)
            exact kw_wk (hk20 1 σ31) ⟨Or.inr rfl, Or.inl rfl, Or.inr rfl, Or.inr rfl, Or.inr rfl, Or.inl rfl, trivial⟩
          · refine kw_aload_n C d_Packer_packShort_71 rfl ?_
            refine kw_getI C fi_Packer_64 (Or.inl rfl) ht d_Packer_packShort_72 ?_
            refine kw_leti (fun x32 => ?_)
            refine kw_istore (L' := [some (.ref t), none, some (.int x9.1), some (.int x9.2), some (.int x32), none]) C d_Packer_packShort_75 (by decide) rfl ?_
            refine kw_aload_n C d_Packer_packShort_77 rfl ?_
            refine kw_callVv (cl' := 0) (sl' := 0) (As := []) C (c_Packer_addCopy hl n ids ht  σ19) mi_Packer_69 v_Packer_addCopy ⟨_, _, rfl⟩ ht ⟨Nat.le_of_ble_eq_true rfl, Nat.le_of_ble_eq_true rfl⟩ (Nat.le_of_ble_eq_true rfl) ⟨Nat.le_of_ble_eq_true rfl, Nat.le_of_ble_eq_true rfl⟩ ⟨rfl, rfl⟩ rfl d_Packer_packShort_78 (fun σ33 => ?_)
            refine kw_goto (tgt := 94) C d_Packer_packShort_81 (by decide) ?_
            exact kw_wk (hk20 x32 σ33) ⟨Or.inr rfl, Or.inl rfl, Or.inr rfl, Or.inr rfl, Or.inr rfl, Or.inl rfl, trivial⟩
