theorem k_Packer_32 : Cond.constant "PictureFile$Packer" 32 65535 ∈ kw_Ts := (kw_m5 (i := 104) (by decide +kernel) (by decide +kernel))
def y_Packer_packPlain : MethodName := ⟨"PictureFile$Packer", "packPlain", "(I)V"⟩
theorem w_Packer_packPlain : Cond.code y_Packer_packPlain prog_6_method_2_code 5 none ∈ kw_Ts := (kw_m5 (i := 103) (by decide +kernel) (by decide +kernel))
theorem fi_Writer_13 : kw_fi "PictureFile$Writer" 13 8 1 true := ⟨mmR_8, mmT_8, 4, rfl, rfl, by decide, mmI_8, mmY_8, mmN_8, rfl, (kw_m2 (i := 31) (by decide +kernel) (by decide +kernel))⟩
theorem mi_Writer_93 : kw_mi "PictureFile$Writer" 93 y_Rows_sumOf prog_9_method_11_code 5 (some .int) 1 := ⟨(kw_m5 (i := 105) (by decide +kernel) (by decide +kernel)), w_Rows_sumOf, in_Rows, by decide +kernel, by decide +kernel, by decide +kernel⟩
theorem fi_Writer_28 : kw_fi "PictureFile$Writer" 28 8 2 true := ⟨mmR_8, mmT_8, 4, rfl, rfl, by decide, mmI_8, mmY_8, mmN_8, rfl, (kw_m2 (i := 32) (by decide +kernel) (by decide +kernel))⟩
theorem mi_Writer_90 : kw_mi "PictureFile$Writer" 90 y_Packer_packPlain prog_6_method_2_code 5 none 1 := ⟨(kw_m5 (i := 100) (by decide +kernel) (by decide +kernel)), w_Packer_packPlain, in_Packer, by decide +kernel, by decide +kernel, by decide +kernel⟩
theorem v_Packer_packPlain : Cond.instanceMethod y_Packer_packPlain ∈ kw_Ts ∧ Cond.selects y_Packer_packPlain.cls y_Packer_packPlain y_Packer_packPlain ∈ kw_Ts := ⟨(kw_m5 (i := 101) (by decide +kernel) (by decide +kernel)), (kw_m5 (i := 102) (by decide +kernel) (by decide +kernel))⟩
theorem mi_Writer_87 : kw_mi "PictureFile$Writer" 87 y_Packer_packShort prog_6_method_3_code 6 none 1 := ⟨(kw_m5 (i := 51) (by decide +kernel) (by decide +kernel)), w_Packer_packShort, in_Packer, by decide +kernel, by decide +kernel, by decide +kernel⟩
theorem v_Packer_packShort : Cond.instanceMethod y_Packer_packShort ∈ kw_Ts ∧ Cond.selects y_Packer_packShort.cls y_Packer_packShort y_Packer_packShort ∈ kw_Ts := ⟨(kw_m5 (i := 52) (by decide +kernel) (by decide +kernel)), (kw_m5 (i := 53) (by decide +kernel) (by decide +kernel))⟩
def y_Writer_addPacked : MethodName := ⟨"PictureFile$Writer", "addPacked", "(IZ)V"⟩
theorem w_Writer_addPacked : Cond.code y_Writer_addPacked prog_12_method_3_code 3 none ∈ kw_Ts := (kw_m5 (i := 50) (by decide +kernel) (by decide +kernel))
theorem gs_Writer_38 : Cond.fieldLink "PictureFile$Writer" 38 "PictureFile$Tape" "MARK" "[I" ∈ kw_Ts := (kw_m5 (i := 8) (by decide +kernel) (by decide +kernel))
theorem mi_Writer_45 : kw_mi "PictureFile$Writer" 45 y_Writer_addHeader prog_12_method_4_code 2 none 1 := ⟨(kw_m5 (i := 10) (by decide +kernel) (by decide +kernel)), w_Writer_addHeader, in_Writer, by decide +kernel, by decide +kernel, by decide +kernel⟩
theorem v_Writer_addHeader : Cond.instanceMethod y_Writer_addHeader ∈ kw_Ts ∧ Cond.selects y_Writer_addHeader.cls y_Writer_addHeader y_Writer_addHeader ∈ kw_Ts := ⟨(kw_m5 (i := 12) (by decide +kernel) (by decide +kernel)), (kw_sel (i := 29) (by decide +kernel) (by decide +kernel))⟩
theorem mi_Writer_63 : kw_mi "PictureFile$Writer" 63 y_Rows_filterAll prog_9_method_10_code 7 none 1 := ⟨(kw_m5 (i := 40) (by decide +kernel) (by decide +kernel)), w_Rows_filterAll, in_Rows, by decide +kernel, by decide +kernel, by decide +kernel⟩
theorem v_Rows_filterAll : Cond.instanceMethod y_Rows_filterAll ∈ kw_Ts ∧ Cond.selects y_Rows_filterAll.cls y_Rows_filterAll y_Rows_filterAll ∈ kw_Ts := ⟨(kw_m5 (i := 41) (by decide +kernel) (by decide +kernel)), (kw_m5 (i := 42) (by decide +kernel) (by decide +kernel))⟩
theorem k_Writer_66 : Cond.constant "PictureFile$Writer" 66 1229209940 ∈ kw_Ts := (kw_m5 (i := 46) (by decide +kernel) (by decide +kernel))
theorem fi_Writer_70 : kw_fi "PictureFile$Writer" 70 10 11 true := ⟨mmR_10, mmT_10, 12, rfl, rfl, by decide, mmI_10, mmY_10, mmN_10, rfl, (kw_m2 (i := 143) (by decide +kernel) (by decide +kernel))⟩
theorem fi_Writer_74 : kw_fi "PictureFile$Writer" 74 11 1 false := ⟨mmR_11, mmT_11, 10, rfl, rfl, by decide, mmI_11, mmY_11, mmN_11, rfl, (kw_m2 (i := 59) (by decide +kernel) (by decide +kernel))⟩
theorem mi_Writer_79 : kw_mi "PictureFile$Writer" 79 y_Writer_addPacked prog_12_method_3_code 3 none 2 := ⟨(kw_m5 (i := 47) (by decide +kernel) (by decide +kernel)), w_Writer_addPacked, in_Writer, by decide +kernel, by decide +kernel, by decide +kernel⟩
theorem v_Writer_addPacked : Cond.instanceMethod y_Writer_addPacked ∈ kw_Ts ∧ Cond.selects y_Writer_addPacked.cls y_Writer_addPacked y_Writer_addPacked ∈ kw_Ts := ⟨(kw_m5 (i := 49) (by decide +kernel) (by decide +kernel)), (kw_sel (i := 34) (by decide +kernel) (by decide +kernel))⟩
theorem k_Writer_86 : Cond.constant "PictureFile$Writer" 86 1229278788 ∈ kw_Ts := (kw_m5 (i := 106) (by decide +kernel) (by decide +kernel))
theorem mi_Writer_60 : kw_mi "PictureFile$Writer" 60 y_Writer_addThins prog_12_method_6_code 3 none 1 := ⟨(kw_m5 (i := 34) (by decide +kernel) (by decide +kernel)), w_Writer_addThins, in_Writer, by decide +kernel, by decide +kernel, by decide +kernel⟩
theorem v_Writer_addThins : Cond.instanceMethod y_Writer_addThins ∈ kw_Ts ∧ Cond.selects y_Writer_addThins.cls y_Writer_addThins y_Writer_addThins ∈ kw_Ts := ⟨(kw_m5 (i := 36) (by decide +kernel) (by decide +kernel)), (kw_sel (i := 33) (by decide +kernel) (by decide +kernel))⟩
theorem mi_Writer_54 : kw_mi "PictureFile$Writer" 54 y_Writer_addColours prog_12_method_5_code 3 none 1 := ⟨(kw_m5 (i := 29) (by decide +kernel) (by decide +kernel)), w_Writer_addColours, in_Writer, by decide +kernel, by decide +kernel, by decide +kernel⟩
theorem v_Writer_addColours : Cond.instanceMethod y_Writer_addColours ∈ kw_Ts ∧ Cond.selects y_Writer_addColours.cls y_Writer_addColours y_Writer_addColours ∈ kw_Ts := ⟨(kw_m5 (i := 31) (by decide +kernel) (by decide +kernel)), (kw_sel (i := 32) (by decide +kernel) (by decide +kernel))⟩
def y_Writer_writeFile : MethodName := ⟨"PictureFile$Writer", "writeFile", "(LPictureFile$Picture;Z)V"⟩
theorem w_Writer_writeFile : Cond.code y_Writer_writeFile prog_12_method_2_code 7 none ∈ kw_Ts := (kw_m5 (i := 7) (by decide +kernel) (by decide +kernel))
theorem fi_PF_58 : kw_fi "PictureFile" 58 0 5 true := ⟨mmR_0, mmT_0, 9, rfl, rfl, by decide, mmI_0, mmY_0, mmN_0, rfl, (kw_m2 (i := 175) (by decide +kernel) (by decide +kernel))⟩
theorem mi_PF_211 : kw_mi "PictureFile" 211 y_Writer_writeFile prog_12_method_2_code 7 none 2 := ⟨(kw_m5 (i := 4) (by decide +kernel) (by decide +kernel)), w_Writer_writeFile, in_Writer, by decide +kernel, by decide +kernel, by decide +kernel⟩
theorem v_Writer_writeFile : Cond.instanceMethod y_Writer_writeFile ∈ kw_Ts ∧ Cond.selects y_Writer_writeFile.cls y_Writer_writeFile y_Writer_writeFile ∈ kw_Ts := ⟨(kw_m5 (i := 5) (by decide +kernel) (by decide +kernel)), (kw_m5 (i := 6) (by decide +kernel) (by decide +kernel))⟩
def y_PF_write : MethodName := ⟨"PictureFile", "write", "(Z)I"⟩
theorem w_PF_write : Cond.code y_PF_write prog_1_method_16_code 2 (some .int) ∈ kw_Ts := (kw_m5 (i := 3) (by decide +kernel) (by decide +kernel))
def y_PF_wantByte : MethodName := ⟨"PictureFile", "wantByte", "(I)V"⟩
theorem w_PF_wantByte : Cond.code y_PF_wantByte prog_1_method_23_code 2 none ∈ kw_Ts := (kw_m5 (i := 117) (by decide +kernel) (by decide +kernel))
theorem mi_PF_215 : kw_mi "PictureFile" 215 y_PF_wantByte prog_1_method_23_code 2 none 1 := ⟨(kw_m5 (i := 114) (by decide +kernel) (by decide +kernel)), w_PF_wantByte, in_PF, by decide +kernel, by decide +kernel, by decide +kernel⟩
theorem v_PF_wantByte : Cond.instanceMethod y_PF_wantByte ∈ kw_Ts ∧ Cond.selects y_PF_wantByte.cls y_PF_wantByte y_PF_wantByte ∈ kw_Ts := ⟨(kw_m5 (i := 116) (by decide +kernel) (by decide +kernel)), (kw_sel (i := 42) (by decide +kernel) (by decide +kernel))⟩
theorem fi_PF_218 : kw_fi "PictureFile" 218 1 0 true := ⟨mmR_1, mmT_1, 3, rfl, rfl, by decide, mmI_1, mmY_1, mmN_1, rfl, (kw_m1 (i := 45) (by decide +kernel) (by decide +kernel))⟩
def y_PF_byteAt : MethodName := ⟨"PictureFile", "byteAt", "(I)I"⟩
theorem w_PF_byteAt : Cond.code y_PF_byteAt prog_1_method_17_code 2 (some .int) ∈ kw_Ts := (kw_m5 (i := 113) (by decide +kernel) (by decide +kernel))
def y_PF_spoil : MethodName := ⟨"PictureFile", "spoil", "(II)V"⟩
theorem w_PF_spoil : Cond.code y_PF_spoil prog_1_method_18_code 3 none ∈ kw_Ts := (kw_m5 (i := 124) (by decide +kernel) (by decide +kernel))
theorem k_PF_221 : Cond.constantLong "PictureFile" 221 4 ∈ kw_Ts := (kw_m5 (i := 132) (by decide +kernel) (by decide +kernel))
theorem mi_PF_223 : kw_mi "PictureFile" 223 y_Tape_check prog_10_method_9_code 5 (some .int) 2 := ⟨(kw_m5 (i := 133) (by decide +kernel) (by decide +kernel)), w_Tape_check, in_Tape, by decide +kernel, by decide +kernel, by decide +kernel⟩
theorem mi_PF_226 : kw_mi "PictureFile" 226 y_Tape_putNumber prog_10_method_6_code 3 none 2 := ⟨(kw_m5 (i := 134) (by decide +kernel) (by decide +kernel)), w_Tape_putNumber, in_Tape, by decide +kernel, by decide +kernel, by decide +kernel⟩
def y_PF_mend : MethodName := ⟨"PictureFile", "mend", "(II)V"⟩
theorem w_PF_mend : Cond.code y_PF_mend prog_1_method_19_code 3 none ∈ kw_Ts := (kw_m5 (i := 131) (by decide +kernel) (by decide +kernel))
def y_Md_max : MethodName := ⟨"PictureFileModel", "max", "(II)I"⟩
theorem w_Md_max : Cond.code y_Md_max prog_14_method_2_code 2 (some .int) ∈ kw_Ts := (kw_m7 (i := 11) (by decide +kernel) (by decide +kernel))
def y_Md_min : MethodName := ⟨"PictureFileModel", "min", "(II)I"⟩
theorem w_Md_min : Cond.code y_Md_min prog_14_method_3_code 2 (some .int) ∈ kw_Ts := (kw_m7 (i := 201) (by decide +kernel) (by decide +kernel))
def y_Md_size : MethodName := ⟨"PictureFileModel", "size", "(I)I"⟩
theorem w_Md_size : Cond.code y_Md_size prog_14_method_4_code 1 (some .int) ∈ kw_Ts := (kw_m7 (i := 64) (by decide +kernel) (by decide +kernel))
theorem fi_Md_67 : kw_fi "PictureFileModel" 67 12 0 false := ⟨mmR_12, mmT_12, 57, rfl, rfl, by decide, mmI_12, mmY_12, mmN_12, rfl, (kw_m5 (i := 143) (by decide +kernel) (by decide +kernel))⟩
def y_Md_thrown : MethodName := ⟨"PictureFileModel", "thrown", "()I"⟩
theorem w_Md_thrown : Cond.code y_Md_thrown prog_14_method_5_code 1 (some .int) ∈ kw_Ts := (kw_m6 (i := 79) (by decide +kernel) (by decide +kernel))
theorem fi_Md_71 : kw_fi "PictureFileModel" 71 12 2 false := ⟨mmR_12, mmT_12, 57, rfl, rfl, by decide, mmI_12, mmY_12, mmN_12, rfl, (kw_m5 (i := 145) (by decide +kernel) (by decide +kernel))⟩
theorem k_Md_7 : Cond.constant "PictureFileModel" 7 65536 ∈ kw_Ts := (kw_m5 (i := 141) (by decide +kernel) (by decide +kernel))
theorem fi_Md_8 : kw_fi "PictureFileModel" 8 12 1 true := ⟨mmR_12, mmT_12, 57, rfl, rfl, by decide, mmI_12, mmY_12, mmN_12, rfl, (kw_m5 (i := 144) (by decide +kernel) (by decide +kernel))⟩
def y_Md_feed : MethodName := ⟨"PictureFileModel", "feed", "(IIIII)I"⟩
theorem w_Md_feed : Cond.code y_Md_feed prog_14_method_6_code 8 (some .int) ∈ kw_Ts := (kw_m6 (i := 83) (by decide +kernel) (by decide +kernel))
def y_Md_end : MethodName := ⟨"PictureFileModel", "end", "(I)V"⟩
theorem w_Md_end : Cond.code y_Md_end prog_14_method_7_code 2 none ∈ kw_Ts := (kw_m6 (i := 87) (by decide +kernel) (by decide +kernel))
def y_Md_byteAt : MethodName := ⟨"PictureFileModel", "byteAt", "(I)I"⟩
theorem w_Md_byteAt : Cond.code y_Md_byteAt prog_14_method_8_code 2 (some .int) ∈ kw_Ts := (kw_m6 (i := 91) (by decide +kernel) (by decide +kernel))
def y_Md_spoil : MethodName := ⟨"PictureFileModel", "spoil", "(II)V"⟩
theorem w_Md_spoil : Cond.code y_Md_spoil prog_14_method_9_code 3 none ∈ kw_Ts := (kw_m6 (i := 95) (by decide +kernel) (by decide +kernel))
def y_Md_at : MethodName := ⟨"PictureFileModel", "at", "(I)I"⟩
theorem w_Md_at : Cond.code y_Md_at prog_14_method_11_code 2 (some .int) ∈ kw_Ts := (kw_m6 (i := 108) (by decide +kernel) (by decide +kernel))
theorem k_Md_89 : Cond.constantLong "PictureFileModel" 89 4294967295 ∈ kw_Ts := (kw_m6 (i := 110) (by decide +kernel) (by decide +kernel))
theorem in_Md : Cond.initialized "PictureFileModel" ∈ kw_Ts := (kw_m1 (i := 14) (by decide +kernel) (by decide +kernel))
theorem mi_Md_84 : kw_mi "PictureFileModel" 84 y_Md_at prog_14_method_11_code 2 (some .int) 1 := ⟨(kw_m6 (i := 105) (by decide +kernel) (by decide +kernel)), w_Md_at, in_Md, by decide +kernel, by decide +kernel, by decide +kernel⟩
theorem v_Md_at : Cond.instanceMethod y_Md_at ∈ kw_Ts ∧ Cond.selects y_Md_at.cls y_Md_at y_Md_at ∈ kw_Ts := ⟨(kw_m6 (i := 107) (by decide +kernel) (by decide +kernel)), (kw_sel (i := 44) (by decide +kernel) (by decide +kernel))⟩
theorem k_Md_88 : Cond.constant "PictureFileModel" 88 (-306674912) ∈ kw_Ts := (kw_m6 (i := 109) (by decide +kernel) (by decide +kernel))
def y_Md_check : MethodName := ⟨"PictureFileModel", "check", "(II)J"⟩
theorem w_Md_check : Cond.code y_Md_check prog_14_method_14_code 7 (some .long) ∈ kw_Ts := (kw_m6 (i := 104) (by decide +kernel) (by decide +kernel))
def y_Md_putNumber : MethodName := ⟨"PictureFileModel", "putNumber", "(IJ)V"⟩
theorem w_Md_putNumber : Cond.code y_Md_putNumber prog_14_method_13_code 5 none ∈ kw_Ts := (kw_m6 (i := 114) (by decide +kernel) (by decide +kernel))
theorem mi_Md_76 : kw_mi "PictureFileModel" 76 y_Md_check prog_14_method_14_code 7 (some .long) 2 := ⟨(kw_m6 (i := 101) (by decide +kernel) (by decide +kernel)), w_Md_check, in_Md, by decide +kernel, by decide +kernel, by decide +kernel⟩
theorem v_Md_check : Cond.instanceMethod y_Md_check ∈ kw_Ts ∧ Cond.selects y_Md_check.cls y_Md_check y_Md_check ∈ kw_Ts := ⟨(kw_m6 (i := 103) (by decide +kernel) (by decide +kernel)), (kw_sel (i := 43) (by decide +kernel) (by decide +kernel))⟩
theorem mi_Md_80 : kw_mi "PictureFileModel" 80 y_Md_putNumber prog_14_method_13_code 5 none 2 := ⟨(kw_m6 (i := 111) (by decide +kernel) (by decide +kernel)), w_Md_putNumber, in_Md, by decide +kernel, by decide +kernel, by decide +kernel⟩
theorem v_Md_putNumber : Cond.instanceMethod y_Md_putNumber ∈ kw_Ts ∧ Cond.selects y_Md_putNumber.cls y_Md_putNumber y_Md_putNumber ∈ kw_Ts := ⟨(kw_m6 (i := 113) (by decide +kernel) (by decide +kernel)), (kw_sel (i := 45) (by decide +kernel) (by decide +kernel))⟩
theorem k_Md_74 : Cond.constantLong "PictureFileModel" 74 4 ∈ kw_Ts := (kw_m6 (i := 100) (by decide +kernel) (by decide +kernel))
def y_Md_mend : MethodName := ⟨"PictureFileModel", "mend", "(II)V"⟩
theorem w_Md_mend : Cond.code y_Md_mend prog_14_method_10_code 3 none ∈ kw_Ts := (kw_m6 (i := 99) (by decide +kernel) (by decide +kernel))
def y_Md_number : MethodName := ⟨"PictureFileModel", "number", "(I)J"⟩
theorem w_Md_number : Cond.code y_Md_number prog_14_method_12_code 2 (some .long) ∈ kw_Ts := (kw_m6 (i := 134) (by decide +kernel) (by decide +kernel))
theorem fi_Md_91 : kw_fi "PictureFileModel" 91 12 3 false := ⟨mmR_12, mmT_12, 57, rfl, rfl, by decide, mmI_12, mmY_12, mmN_12, rfl, (kw_m5 (i := 146) (by decide +kernel) (by decide +kernel))⟩
theorem fi_Md_94 : kw_fi "PictureFileModel" 94 12 4 false := ⟨mmR_12, mmT_12, 57, rfl, rfl, by decide, mmI_12, mmY_12, mmN_12, rfl, (kw_m5 (i := 147) (by decide +kernel) (by decide +kernel))⟩
def y_Md_flaw : MethodName := ⟨"PictureFileModel", "flaw", "(II)Z"⟩
theorem w_Md_flaw : Cond.code y_Md_flaw prog_14_method_15_code 3 (some .boolean) ∈ kw_Ts := (kw_m6 (i := 126) (by decide +kernel) (by decide +kernel))
def y_Md_channels : MethodName := ⟨"PictureFileModel", "channels", "(I)I"⟩
theorem w_Md_channels : Cond.code y_Md_channels prog_14_method_16_code 1 (some .int) ∈ kw_Ts := (kw_m6 (i := 185) (by decide +kernel) (by decide +kernel))
def y_Md_mayBe : MethodName := ⟨"PictureFileModel", "mayBe", "(II)Z"⟩
theorem w_Md_mayBe : Cond.code y_Md_mayBe prog_14_method_17_code 3 (some .boolean) ∈ kw_Ts := (kw_m6 (i := 159) (by decide +kernel) (by decide +kernel))
def y_Md_passX : MethodName := ⟨"PictureFileModel", "passX", "(I)I"⟩
theorem w_Md_passX : Cond.code y_Md_passX prog_14_method_18_code 1 (some .int) ∈ kw_Ts := (kw_m6 (i := 170) (by decide +kernel) (by decide +kernel))
/-! Packer_packPlain -/
def rm_Packer_packPlain : Room := { frames := 1, cells := 0, slots := 0, locals := 21 }
def F_Packer_packPlain (n : Nat) (t : Nat) (a0 : Int32) (σ : Mm) : Option (Mm) :=
kf_let (pS σ (64 * t + 4) a0) fun σ1 =>
kf_l (α := Int32) n (fun k2 x3 σ4 =>
if (gS σ4 (64 * t + 4)) ≤ x3 then (
some σ4) else (
kf_let (if ((gS σ4 (64 * t + 4)) - x3) < (65535 : Int32) then ((gS σ4 (64 * t + 4)) - x3) else (65535 : Int32) : Int32) fun x5 =>
Option.bind (gR σ4 (64 * t + 0)) fun o6 =>
kf_j (α := Int32) (fun x8 σ9 =>
Option.bind (F_Tape_add n o6 x8 σ9) fun σ10 =>
Option.bind (gR σ10 (64 * t + 0)) fun o11 =>
Option.bind (F_Tape_add n o11 x5 σ10) fun σ12 =>
Option.bind (gR σ12 (64 * t + 0)) fun o13 =>
Option.bind (F_Tape_add n o13 (x5 >>> (8 &&& 31)) σ12) fun σ14 =>
Option.bind (gR σ14 (64 * t + 0)) fun o15 =>
Option.bind (F_Tape_add n o15 (x5 ^^^ (-1)) σ14) fun σ16 =>
Option.bind (gR σ16 (64 * t + 0)) fun o17 =>
Option.bind (F_Tape_add n o17 ((x5 ^^^ (-1)) >>> (8 &&& 31)) σ16) fun σ18 =>
kf_l (α := Int32) n (fun k19 x20 σ21 =>
if (x3 + x5) ≤ x20 then (
kf_let (x3 + 65535 : Int32) fun x22 =>
k2 x22 σ21) else (
Option.bind (gR σ21 (64 * t + 0)) fun o23 =>
Option.bind (gR σ21 (64 * t + 1)) fun o24 =>
kf_in x20 (mm_kd o24).2.2 <|
Option.bind (F_Tape_add n o23 (gB σ21 o24 x20.toNatClampNeg) σ21) fun σ25 =>
kf_let (x20 + Int32.ofInt 1) fun x26 =>
k19 x26 σ25)) x3 σ18) fun k7 =>
if (x3 + x5) = (gS σ4 (64 * t + 4)) then (
k7 1 σ4) else (
k7 0 σ4))) 0 σ1
theorem d_Packer_packPlain_0 : decode prog_6_method_2_code 0 = .ok (.aload_n 0, 1) := by decide +kernel
theorem d_Packer_packPlain_1 : decode prog_6_method_2_code 1 = .ok (.iload_n 1, 1) := by decide +kernel
theorem d_Packer_packPlain_2 : decode prog_6_method_2_code 2 = .ok (.putfield 28, 3) := by decide +kernel
theorem d_Packer_packPlain_5 : decode prog_6_method_2_code 5 = .ok (.iconst 0, 1) := by decide +kernel
theorem d_Packer_packPlain_6 : decode prog_6_method_2_code 6 = .ok (.istore_n 2, 1) := by decide +kernel
theorem d_Packer_packPlain_7 : decode prog_6_method_2_code 7 = .ok (.iload_n 2, 1) := by decide +kernel
theorem d_Packer_packPlain_8 : decode prog_6_method_2_code 8 = .ok (.aload_n 0, 1) := by decide +kernel
theorem d_Packer_packPlain_9 : decode prog_6_method_2_code 9 = .ok (.getfield 28, 3) := by decide +kernel
theorem d_Packer_packPlain_12 : decode prog_6_method_2_code 12 = .ok (.if_icmp .ge 118, 3) := by decide +kernel
theorem d_Packer_packPlain_15 : decode prog_6_method_2_code 15 = .ok (.ldc 32, 2) := by decide +kernel
theorem d_Packer_packPlain_17 : decode prog_6_method_2_code 17 = .ok (.aload_n 0, 1) := by decide +kernel
theorem d_Packer_packPlain_18 : decode prog_6_method_2_code 18 = .ok (.getfield 28, 3) := by decide +kernel
theorem d_Packer_packPlain_21 : decode prog_6_method_2_code 21 = .ok (.iload_n 2, 1) := by decide +kernel
theorem d_Packer_packPlain_22 : decode prog_6_method_2_code 22 = .ok (.isub, 1) := by decide +kernel
theorem d_Packer_packPlain_23 : decode prog_6_method_2_code 23 = .ok (.invokestatic 33, 3) := by decide +kernel
theorem d_Packer_packPlain_26 : decode prog_6_method_2_code 26 = .ok (.istore_n 3, 1) := by decide +kernel
theorem d_Packer_packPlain_27 : decode prog_6_method_2_code 27 = .ok (.aload_n 0, 1) := by decide +kernel
theorem d_Packer_packPlain_28 : decode prog_6_method_2_code 28 = .ok (.getfield 21, 3) := by decide +kernel
theorem d_Packer_packPlain_31 : decode prog_6_method_2_code 31 = .ok (.iload_n 2, 1) := by decide +kernel
theorem d_Packer_packPlain_32 : decode prog_6_method_2_code 32 = .ok (.iload_n 3, 1) := by decide +kernel
theorem d_Packer_packPlain_33 : decode prog_6_method_2_code 33 = .ok (.iadd, 1) := by decide +kernel
theorem d_Packer_packPlain_34 : decode prog_6_method_2_code 34 = .ok (.aload_n 0, 1) := by decide +kernel
theorem d_Packer_packPlain_35 : decode prog_6_method_2_code 35 = .ok (.getfield 28, 3) := by decide +kernel
theorem d_Packer_packPlain_38 : decode prog_6_method_2_code 38 = .ok (.if_icmp .ne 7, 3) := by decide +kernel
theorem d_Packer_packPlain_41 : decode prog_6_method_2_code 41 = .ok (.iconst 1, 1) := by decide +kernel
theorem d_Packer_packPlain_42 : decode prog_6_method_2_code 42 = .ok (.goto 4, 3) := by decide +kernel
theorem d_Packer_packPlain_45 : decode prog_6_method_2_code 45 = .ok (.iconst 0, 1) := by decide +kernel
theorem d_Packer_packPlain_46 : decode prog_6_method_2_code 46 = .ok (.invokevirtual 39, 3) := by decide +kernel
theorem d_Packer_packPlain_49 : decode prog_6_method_2_code 49 = .ok (.aload_n 0, 1) := by decide +kernel
theorem d_Packer_packPlain_50 : decode prog_6_method_2_code 50 = .ok (.getfield 21, 3) := by decide +kernel
theorem d_Packer_packPlain_53 : decode prog_6_method_2_code 53 = .ok (.iload_n 3, 1) := by decide +kernel
theorem d_Packer_packPlain_54 : decode prog_6_method_2_code 54 = .ok (.invokevirtual 39, 3) := by decide +kernel
theorem d_Packer_packPlain_57 : decode prog_6_method_2_code 57 = .ok (.aload_n 0, 1) := by decide +kernel
theorem d_Packer_packPlain_58 : decode prog_6_method_2_code 58 = .ok (.getfield 21, 3) := by decide +kernel
theorem d_Packer_packPlain_61 : decode prog_6_method_2_code 61 = .ok (.iload_n 3, 1) := by decide +kernel
theorem d_Packer_packPlain_62 : decode prog_6_method_2_code 62 = .ok (.bipush 8, 2) := by decide +kernel
theorem d_Packer_packPlain_64 : decode prog_6_method_2_code 64 = .ok (.ishr, 1) := by decide +kernel
theorem d_Packer_packPlain_65 : decode prog_6_method_2_code 65 = .ok (.invokevirtual 39, 3) := by decide +kernel
theorem d_Packer_packPlain_68 : decode prog_6_method_2_code 68 = .ok (.aload_n 0, 1) := by decide +kernel
theorem d_Packer_packPlain_69 : decode prog_6_method_2_code 69 = .ok (.getfield 21, 3) := by decide +kernel
theorem d_Packer_packPlain_72 : decode prog_6_method_2_code 72 = .ok (.iload_n 3, 1) := by decide +kernel
theorem d_Packer_packPlain_73 : decode prog_6_method_2_code 73 = .ok (.iconst (-1), 1) := by decide +kernel
theorem d_Packer_packPlain_74 : decode prog_6_method_2_code 74 = .ok (.ixor, 1) := by decide +kernel
theorem d_Packer_packPlain_75 : decode prog_6_method_2_code 75 = .ok (.invokevirtual 39, 3) := by decide +kernel
theorem d_Packer_packPlain_78 : decode prog_6_method_2_code 78 = .ok (.aload_n 0, 1) := by decide +kernel
theorem d_Packer_packPlain_79 : decode prog_6_method_2_code 79 = .ok (.getfield 21, 3) := by decide +kernel
theorem d_Packer_packPlain_82 : decode prog_6_method_2_code 82 = .ok (.iload_n 3, 1) := by decide +kernel
theorem d_Packer_packPlain_83 : decode prog_6_method_2_code 83 = .ok (.iconst (-1), 1) := by decide +kernel
theorem d_Packer_packPlain_84 : decode prog_6_method_2_code 84 = .ok (.ixor, 1) := by decide +kernel
theorem d_Packer_packPlain_85 : decode prog_6_method_2_code 85 = .ok (.bipush 8, 2) := by decide +kernel
theorem d_Packer_packPlain_87 : decode prog_6_method_2_code 87 = .ok (.ishr, 1) := by decide +kernel
theorem d_Packer_packPlain_88 : decode prog_6_method_2_code 88 = .ok (.invokevirtual 39, 3) := by decide +kernel
theorem d_Packer_packPlain_91 : decode prog_6_method_2_code 91 = .ok (.iload_n 2, 1) := by decide +kernel
theorem d_Packer_packPlain_92 : decode prog_6_method_2_code 92 = .ok (.istore 4, 2) := by decide +kernel
theorem d_Packer_packPlain_94 : decode prog_6_method_2_code 94 = .ok (.iload 4, 2) := by decide +kernel
theorem d_Packer_packPlain_96 : decode prog_6_method_2_code 96 = .ok (.iload_n 2, 1) := by decide +kernel
theorem d_Packer_packPlain_97 : decode prog_6_method_2_code 97 = .ok (.iload_n 3, 1) := by decide +kernel
theorem d_Packer_packPlain_98 : decode prog_6_method_2_code 98 = .ok (.iadd, 1) := by decide +kernel
theorem d_Packer_packPlain_99 : decode prog_6_method_2_code 99 = .ok (.if_icmp .ge 23, 3) := by decide +kernel
theorem d_Packer_packPlain_102 : decode prog_6_method_2_code 102 = .ok (.aload_n 0, 1) := by decide +kernel
theorem d_Packer_packPlain_103 : decode prog_6_method_2_code 103 = .ok (.getfield 21, 3) := by decide +kernel
theorem d_Packer_packPlain_106 : decode prog_6_method_2_code 106 = .ok (.aload_n 0, 1) := by decide +kernel
theorem d_Packer_packPlain_107 : decode prog_6_method_2_code 107 = .ok (.getfield 25, 3) := by decide +kernel
theorem d_Packer_packPlain_110 : decode prog_6_method_2_code 110 = .ok (.iload 4, 2) := by decide +kernel
theorem d_Packer_packPlain_112 : decode prog_6_method_2_code 112 = .ok (.iaload, 1) := by decide +kernel
theorem d_Packer_packPlain_113 : decode prog_6_method_2_code 113 = .ok (.invokevirtual 39, 3) := by decide +kernel
theorem d_Packer_packPlain_116 : decode prog_6_method_2_code 116 = .ok (.iinc 4 1, 3) := by decide +kernel
theorem d_Packer_packPlain_119 : decode prog_6_method_2_code 119 = .ok (.goto (-25), 3) := by decide +kernel
theorem d_Packer_packPlain_122 : decode prog_6_method_2_code 122 = .ok (.iload_n 2, 1) := by decide +kernel
theorem d_Packer_packPlain_123 : decode prog_6_method_2_code 123 = .ok (.ldc 32, 2) := by decide +kernel
theorem d_Packer_packPlain_125 : decode prog_6_method_2_code 125 = .ok (.iadd, 1) := by decide +kernel
theorem d_Packer_packPlain_126 : decode prog_6_method_2_code 126 = .ok (.istore_n 2, 1) := by decide +kernel
theorem d_Packer_packPlain_127 : decode prog_6_method_2_code 127 = .ok (.goto (-120), 3) := by decide +kernel
theorem d_Packer_packPlain_130 : decode prog_6_method_2_code 130 = .ok (.return_, 1) := by decide +kernel
set_option maxRecDepth 100000 in
set_option maxHeartbeats 4000000 in
theorem c_Packer_packPlain {l0 : Launch} (hl : l0.stackTraces = false) (n : Nat) (ids : List Nat) {t : Nat} (ht : mm_ok ids t 1 9) (a0 : Int32) (σ : Mm) : kw_C l0 y_Packer_packPlain (Cond.code y_Packer_packPlain prog_6_method_2_code 5 none :: kw_Ts) rm_Packer_packPlain kw_ov ids [] [.ref t, .int a0] σ (F_Packer_packPlain n t a0 σ) := by
  refine kw_start (L0 := [some (.ref t), some (.int a0), none, none, none]) hl (by decide +kernel) (Nat.le_of_ble_eq_true rfl) rfl (fun Γ ad C Ce => ?_)
  unfold F_Packer_packPlain
  refine kw_aload_n C d_Packer_packPlain_0 rfl ?_
  refine kw_iload_n C d_Packer_packPlain_1 rfl ?_
  refine kw_putI C fi_Packer_28 rfl ht d_Packer_packPlain_2 (fun σ1 => ?_)
  refine kw_iconst (v := 0) C d_Packer_packPlain_5 (by decide) ?_
  refine kw_istore_n (L' := [some (.ref t), some (.int a0), some (.int 0), none, none]) C d_Packer_packPlain_6 (by decide) rfl ?_
  refine kw_wk (kw_l (α := Int32) (pc := 7) (Lj := fun x3 => [some (.ref t), none, some (.int x3), none, none]) (stj := fun x3 => []) (fun k2 hk2 x3 σ4 => ?_) n 0 σ1) ⟨Or.inr rfl, Or.inl rfl, Or.inr rfl, Or.inl rfl, Or.inl rfl, trivial⟩
  refine kw_iload_n C d_Packer_packPlain_7 rfl ?_
  refine kw_aload_n C d_Packer_packPlain_8 rfl ?_
  refine kw_getI C fi_Packer_28 (Or.inl rfl) ht d_Packer_packPlain_9 ?_
  refine kw_icmp_ge (tgt := 130) C d_Packer_packPlain_12 (by decide) ?_ ?_
  · exact kw_vret C Ce rfl (by simp) (fun _ _ => rfl) (Nat.le_of_ble_eq_true rfl) (Nat.le_of_ble_eq_true rfl) rfl d_Packer_packPlain_130
  · refine kw_ldc (v := 65535) C d_Packer_packPlain_15 k_Packer_32 ?_
    refine kw_aload_n C d_Packer_packPlain_17 rfl ?_
    refine kw_getI C fi_Packer_28 (Or.inl rfl) ht d_Packer_packPlain_18 ?_
    refine kw_iload_n C d_Packer_packPlain_21 rfl ?_
    refine kw_isub C d_Packer_packPlain_22 ?_
    refine kw_mmin C mth_Packer_33 ms_min in_Math mw_min (Nat.le_of_ble_eq_true rfl) (Nat.le_of_ble_eq_true rfl) (Nat.le_of_ble_eq_true rfl) (Nat.le_of_ble_eq_true rfl) d_Packer_packPlain_23 ?_
    refine kw_leti (fun x5 => ?_)
    refine kw_istore_n (L' := [some (.ref t), none, some (.int x3), some (.int x5), none]) C d_Packer_packPlain_26 (by decide) rfl ?_
    refine kw_aload_n C d_Packer_packPlain_27 rfl ?_
    refine kw_getR C fi_Packer_21 rfl rfl ht d_Packer_packPlain_28 (fun o6 ho6 => ?_)
    refine kw_iload_n C d_Packer_packPlain_31 rfl ?_
    refine kw_iload_n C d_Packer_packPlain_32 rfl ?_
    refine kw_iadd C d_Packer_packPlain_33 ?_
    refine kw_aload_n C d_Packer_packPlain_34 rfl ?_
    refine kw_getI C fi_Packer_28 (Or.inl rfl) ht d_Packer_packPlain_35 ?_
    refine kw_j (α := Int32) (pcj := 46) (Lj := fun x8 => [some (.ref t), none, some (.int x3), some (.int x5), none]) (stj := fun x8 => [.int x8, .ref o6]) (fun x8 σ9 => ?_) (fun k7 hk7 => ?_)
    · refine kw_callVv (cl' := 0) (sl' := 0) (As := [.int x8]) C (c_Tape_add hl n ids ho6 x8 σ9) mi_Packer_39 v_Tape_add ⟨_, _, rfl⟩ ho6 ⟨Nat.le_of_ble_eq_true rfl, Nat.le_of_ble_eq_true rfl⟩ (Nat.le_of_ble_eq_true rfl) ⟨Nat.le_of_ble_eq_true rfl, Nat.le_of_ble_eq_true rfl⟩ ⟨rfl, rfl⟩ rfl d_Packer_packPlain_46 (fun σ10 => ?_)
      refine kw_aload_n C d_Packer_packPlain_49 rfl ?_
      refine kw_getR C fi_Packer_21 rfl rfl ht d_Packer_packPlain_50 (fun o11 ho11 => ?_)
      refine kw_iload_n C d_Packer_packPlain_53 rfl ?_
      refine kw_callVv (cl' := 0) (sl' := 0) (As := [.int x5]) C (c_Tape_add hl n ids ho11 x5 σ10) mi_Packer_39 v_Tape_add ⟨_, _, rfl⟩ ho11 ⟨Nat.le_of_ble_eq_true rfl, Nat.le_of_ble_eq_true rfl⟩ (Nat.le_of_ble_eq_true rfl) ⟨Nat.le_of_ble_eq_true rfl, Nat.le_of_ble_eq_true rfl⟩ ⟨rfl, rfl⟩ rfl d_Packer_packPlain_54 (fun σ12 => ?_)
      refine kw_aload_n C d_Packer_packPlain_57 rfl ?_
      refine kw_getR C fi_Packer_21 rfl rfl ht d_Packer_packPlain_58 (fun o13 ho13 => ?_)
      refine kw_iload_n C d_Packer_packPlain_61 rfl ?_
      refine kw_bipush (v := 8) C d_Packer_packPlain_62 (by decide) ?_
      refine kw_ishr C d_Packer_packPlain_64 ?_
      refine kw_callVv (cl' := 0) (sl' := 0) (As := [.int (x5 >>> (8 &&& 31))]) C (c_Tape_add hl n ids ho13 (x5 >>> (8 &&& 31)) σ12) mi_Packer_39 v_Tape_add ⟨_, _, rfl⟩ ho13 ⟨Nat.le_of_ble_eq_true rfl, Nat.le_of_ble_eq_true rfl⟩ (Nat.le_of_ble_eq_true rfl) ⟨Nat.le_of_ble_eq_true rfl, Nat.le_of_ble_eq_true rfl⟩ ⟨rfl, rfl⟩ rfl d_Packer_packPlain_65 (fun σ14 => ?_)
      refine kw_aload_n C d_Packer_packPlain_68 rfl ?_
      refine kw_getR C fi_Packer_21 rfl rfl ht d_Packer_packPlain_69 (fun o15 ho15 => ?_)
      refine kw_iload_n C d_Packer_packPlain_72 rfl ?_
      refine kw_iconst (v := -1) C d_Packer_packPlain_73 (by decide) ?_
      refine kw_ixor C d_Packer_packPlain_74 ?_
      refine kw_callVv (cl' := 0) (sl' := 0) (As := [.int (x5 ^^^ (-1))]) C (c_Tape_add hl n ids ho15 (x5 ^^^ (-1)) σ14) mi_Packer_39 v_Tape_add ⟨_, _, rfl⟩ ho15 ⟨Nat.le_of_ble_eq_true rfl, Nat.le_of_ble_eq_true rfl⟩ (Nat.le_of_ble_eq_true rfl) ⟨Nat.le_of_ble_eq_true rfl, Nat.le_of_ble_eq_true rfl⟩ ⟨rfl, rfl⟩ rfl d_Packer_packPlain_75 (fun σ16 => ?_)
      refine kw_aload_n C d_Packer_packPlain_78 rfl ?_
      refine kw_getR C fi_Packer_21 rfl rfl ht d_Packer_packPlain_79 (fun o17 ho17 => ?_)
      refine kw_iload_n C d_Packer_packPlain_82 rfl ?_
      refine kw_iconst (v := -1) C d_Packer_packPlain_83 (by decide) ?_
      refine kw_ixor C d_Packer_packPlain_84 ?_
      refine kw_bipush (v := 8) C d_Packer_packPlain_85 (by decide) ?_
      refine kw_ishr C d_Packer_packPlain_87 ?_
      refine kw_callVv (cl' := 0) (sl' := 0) (As := [.int ((x5 ^^^ (-1)) >>> (8 &&& 31))]) C (c_Tape_add hl n ids ho17 ((x5 ^^^ (-1)) >>> (8 &&& 31)) σ16) mi_Packer_39 v_Tape_add ⟨_, _, rfl⟩ ho17 ⟨Nat.le_of_ble_eq_true rfl, Nat.le_of_ble_eq_true rfl⟩ (Nat.le_of_ble_eq_true rfl) ⟨Nat.le_of_ble_eq_true rfl, Nat.le_of_ble_eq_true rfl⟩ ⟨rfl, rfl⟩ rfl d_Packer_packPlain_88 (fun σ18 => ?_)
      refine kw_iload_n C d_Packer_packPlain_91 rfl ?_
      refine kw_istore (L' := [some (.ref t), none, some (.int x3), some (.int x5), some (.int x3)]) C d_Packer_packPlain_92 (by decide) rfl ?_
      refine kw_wk (kw_l (α := Int32) (pc := 94) (Lj := fun x20 => [some (.ref t), none, some (.int x3), some (.int x5), some (.int x20)]) (stj := fun x20 => []) (fun k19 hk19 x20 σ21 => ?_) n x3 σ18) ⟨Or.inr rfl, Or.inl rfl, Or.inr rfl, Or.inr rfl, Or.inr rfl, trivial⟩
      refine kw_iload C d_Packer_packPlain_94 rfl ?_
      refine kw_iload_n C d_Packer_packPlain_96 rfl ?_
      refine kw_iload_n C d_Packer_packPlain_97 rfl ?_
      refine kw_iadd C d_Packer_packPlain_98 ?_
      refine kw_icmp_ge (tgt := 122) C d_Packer_packPlain_99 (by decide) ?_ ?_
      · refine kw_iload_n C d_Packer_packPlain_122 rfl ?_
        refine kw_ldc (v := 65535) C d_Packer_packPlain_123 k_Packer_32 ?_
        refine kw_iadd C d_Packer_packPlain_125 ?_
        refine kw_leti (fun x22 => ?_)
        refine kw_istore_n (L' := [some (.ref t), none, some (.int x22), some (.int x5), some (.int x20)]) C d_Packer_packPlain_126 (by decide) rfl ?_
        refine kw_goto (tgt := 7) C d_Packer_packPlain_127 (by decide) ?_
        exact kw_wk (hk2 x22 σ21) ⟨Or.inr rfl, Or.inl rfl, Or.inr rfl, Or.inl rfl, Or.inl rfl, trivial⟩
      · refine kw_aload_n C d_Packer_packPlain_102 rfl ?_
        refine kw_getR C fi_Packer_21 rfl rfl ht d_Packer_packPlain_103 (fun o23 ho23 => ?_)
        refine kw_aload_n C d_Packer_packPlain_106 rfl ?_
        refine kw_getR C fi_Packer_25 rfl rfl ht d_Packer_packPlain_107 (fun o24 ho24 => ?_)
        refine kw_iload C d_Packer_packPlain_110 rfl ?_
        refine kw_iald C (Or.inl ⟨ho24.1, ho24.2.1⟩) d_Packer_packPlain_112 ?_
        refine kw_callVv (cl' := 0) (sl' := 0) (As := [.int (gB σ21 o24 x20.toNatClampNeg)]) C (c_Tape_add hl n ids ho23 (gB σ21 o24 x20.toNatClampNeg) σ21) mi_Packer_39 v_Tape_add ⟨_, _, rfl⟩ ho23 ⟨Nat.le_of_ble_eq_true rfl, Nat.le_of_ble_eq_true rfl⟩ (Nat.le_of_ble_eq_true rfl) ⟨Nat.le_of_ble_eq_true rfl, Nat.le_of_ble_eq_true rfl⟩ ⟨rfl, rfl⟩ rfl d_Packer_packPlain_113 (fun σ25 => ?_)
        refine kw_iincL (L2 := fun x26 => [some (.ref t), none, some (.int x3), some (.int x5), some (.int x26)]) C d_Packer_packPlain_116 (by decide) rfl (fun _ => rfl) (fun x26 => ?_)
        refine kw_goto (tgt := 94) C d_Packer_packPlain_119 (by decide) ?_
        exact kw_wk (hk19 x26 σ25) ⟨Or.inr rfl, Or.inl rfl, Or.inr rfl, Or.inr rfl, Or.inr rfl, trivial⟩
    · refine kw_icmp_ne (tgt := 45) C d_Packer_packPlain_38 (by decide) ?_ ?_
      · refine kw_iconst (v := 0) C d_Packer_packPlain_45 (by decide) ?_
        exact kw_wk (hk7 0 σ4) ⟨Or.inr rfl, Or.inl rfl, Or.inr rfl, Or.inr rfl, Or.inl rfl, trivial⟩
      · refine kw_iconst (v := 1) C d_Packer_packPlain_41 (by decide) ?_
        refine kw_goto (tgt := 46) C d_Packer_packPlain_42 (by decide) ?_
        exact kw_wk (hk7 1 σ4) ⟨Or.inr rfl, Or.inl rfl, Or.inr rfl, Or.inr rfl, Or.inl rfl, trivial⟩
/-! Writer_addPacked -/
def rm_Writer_addPacked : Room := { frames := 5, cells := 0, slots := 0, locals := 112 }
def F_Writer_addPacked (n : Nat) (t : Nat) (a0 : Int32) (a1 : Int32) (σ : Mm) : Option (Mm) :=
Option.bind (gR σ (64 * t + 0)) fun o1 =>
Option.bind (F_Tape_add n o1 120 σ) fun σ2 =>
Option.bind (gR σ2 (64 * t + 0)) fun o3 =>
Option.bind (F_Tape_add n o3 1 σ2) fun σ4 =>
kf_j (α := Unit) (fun x6 σ7 =>
Option.bind (gR σ7 (64 * t + 0)) fun o8 =>
Option.bind (gR σ7 (64 * t + 1)) fun o9 =>
kf_c2 (F_Rows_sumOf n o9 a0 σ7) fun x10 σ11 =>
Option.bind (F_Tape_addNumber n o8 x10 σ11) fun σ12 =>
some σ12) fun k5 =>
if a1 = 0 then (
Option.bind (gR σ4 (64 * t + 2)) fun o13 =>
Option.bind (F_Packer_packPlain n o13 a0 σ4) fun σ14 =>
k5 () σ14) else (
Option.bind (gR σ4 (64 * t + 2)) fun o15 =>
Option.bind (F_Packer_packShort n o15 a0 σ4) fun σ16 =>
k5 () σ16)
theorem d_Writer_addPacked_0 : decode prog_12_method_3_code 0 = .ok (.aload_n 0, 1) := by decide +kernel
theorem d_Writer_addPacked_1 : decode prog_12_method_3_code 1 = .ok (.getfield 7, 3) := by decide +kernel
theorem d_Writer_addPacked_4 : decode prog_12_method_3_code 4 = .ok (.bipush 120, 2) := by decide +kernel
theorem d_Writer_addPacked_6 : decode prog_12_method_3_code 6 = .ok (.invokevirtual 41, 3) := by decide +kernel
theorem d_Writer_addPacked_9 : decode prog_12_method_3_code 9 = .ok (.aload_n 0, 1) := by decide +kernel
theorem d_Writer_addPacked_10 : decode prog_12_method_3_code 10 = .ok (.getfield 7, 3) := by decide +kernel
theorem d_Writer_addPacked_13 : decode prog_12_method_3_code 13 = .ok (.iconst 1, 1) := by decide +kernel
theorem d_Writer_addPacked_14 : decode prog_12_method_3_code 14 = .ok (.invokevirtual 41, 3) := by decide +kernel
theorem d_Writer_addPacked_17 : decode prog_12_method_3_code 17 = .ok (.iload_n 2, 1) := by decide +kernel
theorem d_Writer_addPacked_18 : decode prog_12_method_3_code 18 = .ok (.ifCond .eq 14, 3) := by decide +kernel
theorem d_Writer_addPacked_21 : decode prog_12_method_3_code 21 = .ok (.aload_n 0, 1) := by decide +kernel
theorem d_Writer_addPacked_22 : decode prog_12_method_3_code 22 = .ok (.getfield 28, 3) := by decide +kernel
theorem d_Writer_addPacked_25 : decode prog_12_method_3_code 25 = .ok (.iload_n 1, 1) := by decide +kernel
theorem d_Writer_addPacked_26 : decode prog_12_method_3_code 26 = .ok (.invokevirtual 87, 3) := by decide +kernel
theorem d_Writer_addPacked_29 : decode prog_12_method_3_code 29 = .ok (.goto 11, 3) := by decide +kernel
theorem d_Writer_addPacked_32 : decode prog_12_method_3_code 32 = .ok (.aload_n 0, 1) := by decide +kernel
theorem d_Writer_addPacked_33 : decode prog_12_method_3_code 33 = .ok (.getfield 28, 3) := by decide +kernel
theorem d_Writer_addPacked_36 : decode prog_12_method_3_code 36 = .ok (.iload_n 1, 1) := by decide +kernel
theorem d_Writer_addPacked_37 : decode prog_12_method_3_code 37 = .ok (.invokevirtual 90, 3) := by decide +kernel
theorem d_Writer_addPacked_40 : decode prog_12_method_3_code 40 = .ok (.aload_n 0, 1) := by decide +kernel
theorem d_Writer_addPacked_41 : decode prog_12_method_3_code 41 = .ok (.getfield 7, 3) := by decide +kernel
theorem d_Writer_addPacked_44 : decode prog_12_method_3_code 44 = .ok (.aload_n 0, 1) := by decide +kernel
theorem d_Writer_addPacked_45 : decode prog_12_method_3_code 45 = .ok (.getfield 13, 3) := by decide +kernel
theorem d_Writer_addPacked_48 : decode prog_12_method_3_code 48 = .ok (.iload_n 1, 1) := by decide +kernel
theorem d_Writer_addPacked_49 : decode prog_12_method_3_code 49 = .ok (.invokevirtual 93, 3) := by decide +kernel
theorem d_Writer_addPacked_52 : decode prog_12_method_3_code 52 = .ok (.invokevirtual 97, 3) := by decide +kernel
theorem d_Writer_addPacked_55 : decode prog_12_method_3_code 55 = .ok (.return_, 1) := by decide +kernel
set_option maxRecDepth 100000 in
set_option maxHeartbeats 4000000 in
theorem c_Writer_addPacked {l0 : Launch} (hl : l0.stackTraces = false) (n : Nat) (ids : List Nat) {t : Nat} (ht : mm_ok ids t 1 8) (a0 : Int32) (a1 : Int32) (σ : Mm) : kw_C l0 y_Writer_addPacked (Cond.code y_Writer_addPacked prog_12_method_3_code 3 none :: kw_Ts) rm_Writer_addPacked kw_ov ids [] [.ref t, .int a0, .int a1] σ (F_Writer_addPacked n t a0 a1 σ) := by
  refine kw_start (L0 := [some (.ref t), some (.int a0), some (.int a1)]) hl (by decide +kernel) (Nat.le_of_ble_eq_true rfl) rfl (fun Γ ad C Ce => ?_)
  unfold F_Writer_addPacked
  refine kw_aload_n C d_Writer_addPacked_0 rfl ?_
  refine kw_getR C fi_Writer_7 rfl rfl ht d_Writer_addPacked_1 (fun o1 ho1 => ?_)
  refine kw_bipush (v := 120) C d_Writer_addPacked_4 (by decide) ?_
  refine kw_callVv (cl' := 0) (sl' := 0) (As := [.int 120]) C (c_Tape_add hl n ids ho1 120 σ) mi_Writer_41 v_Tape_add ⟨_, _, rfl⟩ ho1 ⟨Nat.le_of_ble_eq_true rfl, Nat.le_of_ble_eq_true rfl⟩ (Nat.le_of_ble_eq_true rfl) ⟨Nat.le_of_ble_eq_true rfl, Nat.le_of_ble_eq_true rfl⟩ ⟨rfl, rfl⟩ rfl d_Writer_addPacked_6 (fun σ2 => ?_)
  refine kw_aload_n C d_Writer_addPacked_9 rfl ?_
  refine kw_getR C fi_Writer_7 rfl rfl ht d_Writer_addPacked_10 (fun o3 ho3 => ?_)
  refine kw_iconst (v := 1) C d_Writer_addPacked_13 (by decide) ?_
  refine kw_callVv (cl' := 0) (sl' := 0) (As := [.int 1]) C (c_Tape_add hl n ids ho3 1 σ2) mi_Writer_41 v_Tape_add ⟨_, _, rfl⟩ ho3 ⟨Nat.le_of_ble_eq_true rfl, Nat.le_of_ble_eq_true rfl⟩ (Nat.le_of_ble_eq_true rfl) ⟨Nat.le_of_ble_eq_true rfl, Nat.le_of_ble_eq_true rfl⟩ ⟨rfl, rfl⟩ rfl d_Writer_addPacked_14 (fun σ4 => ?_)
  refine kw_iload_n C d_Writer_addPacked_17 rfl ?_
  refine kw_j (α := Unit) (pcj := 40) (Lj := fun x6 => [some (.ref t), some (.int a0), none]) (stj := fun x6 => []) (fun x6 σ7 => ?_) (fun k5 hk5 => ?_)
  · refine kw_aload_n C d_Writer_addPacked_40 rfl ?_
    refine kw_getR C fi_Writer_7 rfl rfl ht d_Writer_addPacked_41 (fun o8 ho8 => ?_)
    refine kw_aload_n C d_Writer_addPacked_44 rfl ?_
    refine kw_getR C fi_Writer_13 rfl rfl ht d_Writer_addPacked_45 (fun o9 ho9 => ?_)
    refine kw_iload_n C d_Writer_addPacked_48 rfl ?_
    refine kw_callVi (cl' := 0) (sl' := 0) (As := [.int a0]) C (c_Rows_sumOf hl n ids ho9 a0 σ7) mi_Writer_93 v_Rows_sumOf ⟨_, _, rfl⟩ ho9 ⟨Nat.le_of_ble_eq_true rfl, Nat.le_of_ble_eq_true rfl⟩ (Nat.le_of_ble_eq_true rfl) ⟨Nat.le_of_ble_eq_true rfl, Nat.le_of_ble_eq_true rfl⟩ ⟨rfl, rfl⟩ rfl d_Writer_addPacked_49 (fun x10 σ11 => ?_)
    refine kw_callVv (cl' := 0) (sl' := 0) (As := [.int x10]) C (c_Tape_addNumber hl n ids ho8 x10 σ11) mi_Writer_97 v_Tape_addNumber ⟨_, _, rfl⟩ ho8 ⟨Nat.le_of_ble_eq_true rfl, Nat.le_of_ble_eq_true rfl⟩ (Nat.le_of_ble_eq_true rfl) ⟨Nat.le_of_ble_eq_true rfl, Nat.le_of_ble_eq_true rfl⟩ ⟨rfl, rfl⟩ rfl d_Writer_addPacked_52 (fun σ12 => ?_)
    exact kw_vret C Ce rfl (by simp) (fun _ _ => rfl) (Nat.le_of_ble_eq_true rfl) (Nat.le_of_ble_eq_true rfl) rfl d_Writer_addPacked_55
  · refine kw_if_eq (tgt := 32) C d_Writer_addPacked_18 (by decide) ?_ ?_
    · refine kw_aload_n C d_Writer_addPacked_32 rfl ?_
      refine kw_getR C fi_Writer_28 rfl rfl ht d_Writer_addPacked_33 (fun o13 ho13 => ?_)
      refine kw_iload_n C d_Writer_addPacked_36 rfl ?_
      refine kw_callVv (cl' := 0) (sl' := 0) (As := [.int a0]) C (c_Packer_packPlain hl n ids ho13 a0 σ4) mi_Writer_90 v_Packer_packPlain ⟨_, _, rfl⟩ ho13 ⟨Nat.le_of_ble_eq_true rfl, Nat.le_of_ble_eq_true rfl⟩ (Nat.le_of_ble_eq_true rfl) ⟨Nat.le_of_ble_eq_true rfl, Nat.le_of_ble_eq_true rfl⟩ ⟨rfl, rfl⟩ rfl d_Writer_addPacked_37 (fun σ14 => ?_)
      exact kw_wk (hk5 () σ14) ⟨Or.inr rfl, Or.inr rfl, Or.inl rfl, trivial⟩
    · refine kw_aload_n C d_Writer_addPacked_21 rfl ?_
      refine kw_getR C fi_Writer_28 rfl rfl ht d_Writer_addPacked_22 (fun o15 ho15 => ?_)
      refine kw_iload_n C d_Writer_addPacked_25 rfl ?_
      refine kw_callVv (cl' := 0) (sl' := 0) (As := [.int a0]) C (c_Packer_packShort hl n ids ho15 a0 σ4) mi_Writer_87 v_Packer_packShort ⟨_, _, rfl⟩ ho15 ⟨Nat.le_of_ble_eq_true rfl, Nat.le_of_ble_eq_true rfl⟩ (Nat.le_of_ble_eq_true rfl) ⟨Nat.le_of_ble_eq_true rfl, Nat.le_of_ble_eq_true rfl⟩ ⟨rfl, rfl⟩ rfl d_Writer_addPacked_26 (fun σ16 => ?_)
      refine kw_goto (tgt := 40) C d_Writer_addPacked_29 (by decide) ?_
      exact kw_wk (hk5 () σ16) ⟨Or.inr rfl, Or.inr rfl, Or.inl rfl, trivial⟩
/-! Writer_writeFile -/
def rm_Writer_writeFile : Room := { frames := 6, cells := 0, slots := 0, locals := 154 }
def F_Writer_writeFile (n : Nat) (t : Nat) (r0 : Nat) (a1 : Int32) (σ : Mm) : Option (Mm) :=
Option.bind (gR σ (64 * t + 0)) fun o1 =>
kf_let (pS σ (64 * o1 + 1) 0) fun σ2 =>
kf_let (Int32.ofNat (mm_kd 100).2.2 : Int32) fun x3 =>
kf_l (α := Int32) n (fun k4 x5 σ6 =>
if x3 ≤ x5 then (
Option.bind (F_Writer_addHeader n t r0 σ6) fun σ7 =>
kf_j (α := Unit) (fun x9 σ10 =>
kf_j (α := Unit) (fun x12 σ13 =>
Option.bind (gR σ13 (64 * t + 1)) fun o14 =>
Option.bind (F_Rows_filterAll n o14 r0 σ13) fun σ15 =>
Option.bind (F_Writer_startPiece n t 1229209940 σ15) fun σ16 =>
Option.bind (gR σ16 (64 * r0 + 11)) fun o17 =>
Option.bind (F_Writer_addPacked n t (gS σ16 (64 * o17 + 1)) a1 σ16) fun σ18 =>
Option.bind (F_Writer_closePiece n t σ18) fun σ19 =>
Option.bind (F_Writer_startPiece n t 1229278788 σ19) fun σ20 =>
Option.bind (F_Writer_closePiece n t σ20) fun σ21 =>
some σ21) fun k11 =>
if (gS σ10 (64 * r0 + 7)) ≤ 0 then (
k11 () σ10) else (
Option.bind (F_Writer_addThins n t r0 σ10) fun σ22 =>
k11 () σ22)) fun k8 =>
if (gS σ7 (64 * r0 + 6)) ≤ 0 then (
k8 () σ7) else (
Option.bind (F_Writer_addColours n t r0 σ7) fun σ23 =>
k8 () σ23)) else (
kf_in x5 (mm_kd 100).2.2 <|
kf_let (gB σ6 100 x5.toNatClampNeg : Int32) fun x24 =>
Option.bind (gR σ6 (64 * t + 0)) fun o25 =>
Option.bind (F_Tape_add n o25 x24 σ6) fun σ26 =>
kf_let (x5 + Int32.ofInt 1) fun x27 =>
k4 x27 σ26)) 0 σ2
theorem d_Writer_writeFile_0 : decode prog_12_method_2_code 0 = .ok (.aload_n 0, 1) := by decide +kernel
theorem d_Writer_writeFile_1 : decode prog_12_method_2_code 1 = .ok (.getfield 7, 3) := by decide +kernel
theorem d_Writer_writeFile_4 : decode prog_12_method_2_code 4 = .ok (.iconst 0, 1) := by decide +kernel
theorem d_Writer_writeFile_5 : decode prog_12_method_2_code 5 = .ok (.putfield 32, 3) := by decide +kernel
theorem d_Writer_writeFile_8 : decode prog_12_method_2_code 8 = .ok (.getstatic 38, 3) := by decide +kernel
theorem d_Writer_writeFile_11 : decode prog_12_method_2_code 11 = .ok (.astore_n 3, 1) := by decide +kernel
theorem d_Writer_writeFile_12 : decode prog_12_method_2_code 12 = .ok (.aload_n 3, 1) := by decide +kernel
theorem d_Writer_writeFile_13 : decode prog_12_method_2_code 13 = .ok (.arraylength, 1) := by decide +kernel
theorem d_Writer_writeFile_14 : decode prog_12_method_2_code 14 = .ok (.istore 4, 2) := by decide +kernel
theorem d_Writer_writeFile_16 : decode prog_12_method_2_code 16 = .ok (.iconst 0, 1) := by decide +kernel
theorem d_Writer_writeFile_17 : decode prog_12_method_2_code 17 = .ok (.istore 5, 2) := by decide +kernel
theorem d_Writer_writeFile_19 : decode prog_12_method_2_code 19 = .ok (.iload 5, 2) := by decide +kernel
theorem d_Writer_writeFile_21 : decode prog_12_method_2_code 21 = .ok (.iload 4, 2) := by decide +kernel
theorem d_Writer_writeFile_23 : decode prog_12_method_2_code 23 = .ok (.if_icmp .ge 24, 3) := by decide +kernel
theorem d_Writer_writeFile_26 : decode prog_12_method_2_code 26 = .ok (.aload_n 3, 1) := by decide +kernel
theorem d_Writer_writeFile_27 : decode prog_12_method_2_code 27 = .ok (.iload 5, 2) := by decide +kernel
theorem d_Writer_writeFile_29 : decode prog_12_method_2_code 29 = .ok (.iaload, 1) := by decide +kernel
theorem d_Writer_writeFile_30 : decode prog_12_method_2_code 30 = .ok (.istore 6, 2) := by decide +kernel
theorem d_Writer_writeFile_32 : decode prog_12_method_2_code 32 = .ok (.aload_n 0, 1) := by decide +kernel
theorem d_Writer_writeFile_33 : decode prog_12_method_2_code 33 = .ok (.getfield 7, 3) := by decide +kernel
theorem d_Writer_writeFile_36 : decode prog_12_method_2_code 36 = .ok (.iload 6, 2) := by decide +kernel
theorem d_Writer_writeFile_38 : decode prog_12_method_2_code 38 = .ok (.invokevirtual 41, 3) := by decide +kernel
theorem d_Writer_writeFile_41 : decode prog_12_method_2_code 41 = .ok (.iinc 5 1, 3) := by decide +kernel
theorem d_Writer_writeFile_44 : decode prog_12_method_2_code 44 = .ok (.goto (-25), 3) := by decide +kernel
theorem d_Writer_writeFile_47 : decode prog_12_method_2_code 47 = .ok (.aload_n 0, 1) := by decide +kernel
theorem d_Writer_writeFile_48 : decode prog_12_method_2_code 48 = .ok (.aload_n 1, 1) := by decide +kernel
theorem d_Writer_writeFile_49 : decode prog_12_method_2_code 49 = .ok (.invokevirtual 45, 3) := by decide +kernel
theorem d_Writer_writeFile_52 : decode prog_12_method_2_code 52 = .ok (.aload_n 1, 1) := by decide +kernel
theorem d_Writer_writeFile_53 : decode prog_12_method_2_code 53 = .ok (.getfield 49, 3) := by decide +kernel
theorem d_Writer_writeFile_56 : decode prog_12_method_2_code 56 = .ok (.ifCond .le 8, 3) := by decide +kernel
theorem d_Writer_writeFile_59 : decode prog_12_method_2_code 59 = .ok (.aload_n 0, 1) := by decide +kernel
theorem d_Writer_writeFile_60 : decode prog_12_method_2_code 60 = .ok (.aload_n 1, 1) := by decide +kernel
theorem d_Writer_writeFile_61 : decode prog_12_method_2_code 61 = .ok (.invokevirtual 54, 3) := by decide +kernel
theorem d_Writer_writeFile_64 : decode prog_12_method_2_code 64 = .ok (.aload_n 1, 1) := by decide +kernel
theorem d_Writer_writeFile_65 : decode prog_12_method_2_code 65 = .ok (.getfield 57, 3) := by decide +kernel
theorem d_Writer_writeFile_68 : decode prog_12_method_2_code 68 = .ok (.ifCond .le 8, 3) := by decide +kernel
theorem d_Writer_writeFile_71 : decode prog_12_method_2_code 71 = .ok (.aload_n 0, 1) := by decide +kernel
theorem d_Writer_writeFile_72 : decode prog_12_method_2_code 72 = .ok (.aload_n 1, 1) := by decide +kernel
theorem d_Writer_writeFile_73 : decode prog_12_method_2_code 73 = .ok (.invokevirtual 60, 3) := by decide +kernel
theorem d_Writer_writeFile_76 : decode prog_12_method_2_code 76 = .ok (.aload_n 0, 1) := by decide +kernel
theorem d_Writer_writeFile_77 : decode prog_12_method_2_code 77 = .ok (.getfield 13, 3) := by decide +kernel
theorem d_Writer_writeFile_80 : decode prog_12_method_2_code 80 = .ok (.aload_n 1, 1) := by decide +kernel
theorem d_Writer_writeFile_81 : decode prog_12_method_2_code 81 = .ok (.invokevirtual 63, 3) := by decide +kernel
theorem d_Writer_writeFile_84 : decode prog_12_method_2_code 84 = .ok (.aload_n 0, 1) := by decide +kernel
theorem d_Writer_writeFile_85 : decode prog_12_method_2_code 85 = .ok (.ldc 66, 2) := by decide +kernel
theorem d_Writer_writeFile_87 : decode prog_12_method_2_code 87 = .ok (.invokevirtual 67, 3) := by decide +kernel
theorem d_Writer_writeFile_90 : decode prog_12_method_2_code 90 = .ok (.aload_n 0, 1) := by decide +kernel
theorem d_Writer_writeFile_91 : decode prog_12_method_2_code 91 = .ok (.aload_n 1, 1) := by decide +kernel
theorem d_Writer_writeFile_92 : decode prog_12_method_2_code 92 = .ok (.getfield 70, 3) := by decide +kernel
theorem d_Writer_writeFile_95 : decode prog_12_method_2_code 95 = .ok (.getfield 74, 3) := by decide +kernel
theorem d_Writer_writeFile_98 : decode prog_12_method_2_code 98 = .ok (.iload_n 2, 1) := by decide +kernel
theorem d_Writer_writeFile_99 : decode prog_12_method_2_code 99 = .ok (.invokevirtual 79, 3) := by decide +kernel
theorem d_Writer_writeFile_102 : decode prog_12_method_2_code 102 = .ok (.aload_n 0, 1) := by decide +kernel
theorem d_Writer_writeFile_103 : decode prog_12_method_2_code 103 = .ok (.invokevirtual 83, 3) := by decide +kernel
theorem d_Writer_writeFile_106 : decode prog_12_method_2_code 106 = .ok (.aload_n 0, 1) := by decide +kernel
theorem d_Writer_writeFile_107 : decode prog_12_method_2_code 107 = .ok (.ldc 86, 2) := by decide +kernel
theorem d_Writer_writeFile_109 : decode prog_12_method_2_code 109 = .ok (.invokevirtual 67, 3) := by decide +kernel
theorem d_Writer_writeFile_112 : decode prog_12_method_2_code 112 = .ok (.aload_n 0, 1) := by decide +kernel
theorem d_Writer_writeFile_113 : decode prog_12_method_2_code 113 = .ok (.invokevirtual 83, 3) := by decide +kernel
theorem d_Writer_writeFile_116 : decode prog_12_method_2_code 116 = .ok (.return_, 1) := by decide +kernel
set_option maxRecDepth 100000 in
set_option maxHeartbeats 4000000 in
theorem c_Writer_writeFile {l0 : Launch} (hl : l0.stackTraces = false) (n : Nat) (ids : List Nat) {t : Nat} (ht : mm_ok ids t 1 8) {r0 : Nat} (hr0 : mm_ok ids r0 1 10) (a1 : Int32) (σ : Mm) : kw_C l0 y_Writer_writeFile (Cond.code y_Writer_writeFile prog_12_method_2_code 7 none :: kw_Ts) rm_Writer_writeFile kw_ov ids [] [.ref t, .ref r0, .int a1] σ (F_Writer_writeFile n t r0 a1 σ) := by
  refine kw_start (L0 := [some (.ref t), some (.ref r0), some (.int a1), none, none, none, none]) hl (by decide +kernel) (Nat.le_of_ble_eq_true rfl) rfl (fun Γ ad C Ce => ?_)
  unfold F_Writer_writeFile
  refine kw_aload_n C d_Writer_writeFile_0 rfl ?_
  refine kw_getR C fi_Writer_7 rfl rfl ht d_Writer_writeFile_1 (fun o1 ho1 => ?_)
  refine kw_iconst (v := 0) C d_Writer_writeFile_4 (by decide) ?_
  refine kw_putI C fi_Writer_32 rfl ho1 d_Writer_writeFile_5 (fun σ2 => ?_)
  refine kw_gets C (Cn := "PictureFile$Tape") (n := "MARK") (dd := "[I") (o := 100) (List.mem_of_getElem? (i := 0) rfl) rfl gs_Writer_38 d_Writer_writeFile_8 ?_
  refine kw_astore_n (L' := [some (.ref t), some (.ref r0), some (.int a1), some (.ref 100), none, none, none]) C d_Writer_writeFile_11 (by decide) rfl ?_
  refine kw_aload_n C d_Writer_writeFile_12 rfl ?_
  refine kw_alen C (Or.inr rfl) d_Writer_writeFile_13 ?_
  refine kw_leti (fun x3 => ?_)
  refine kw_istore (L' := [some (.ref t), some (.ref r0), some (.int a1), some (.ref 100), some (.int x3), none, none]) C d_Writer_writeFile_14 (by decide) rfl ?_
  refine kw_iconst (v := 0) C d_Writer_writeFile_16 (by decide) ?_
  refine kw_istore (L' := [some (.ref t), some (.ref r0), some (.int a1), some (.ref 100), some (.int x3), some (.int 0), none]) C d_Writer_writeFile_17 (by decide) rfl ?_
  refine kw_wk (kw_l (α := Int32) (pc := 19) (Lj := fun x5 => [some (.ref t), some (.ref r0), some (.int a1), some (.ref 100), some (.int x3), some (.int x5), none]) (stj := fun x5 => []) (fun k4 hk4 x5 σ6 => ?_) n 0 σ2) ⟨Or.inr rfl, Or.inr rfl, Or.inr rfl, Or.inr rfl, Or.inr rfl, Or.inr rfl, Or.inl rfl, trivial⟩
  refine kw_iload C d_Writer_writeFile_19 rfl ?_
  refine kw_iload C d_Writer_writeFile_21 rfl ?_
  refine kw_icmp_ge (tgt := 47) C d_Writer_writeFile_23 (by decide) ?_ ?_
  · refine kw_aload_n C d_Writer_writeFile_47 rfl ?_
    refine kw_aload_n C d_Writer_writeFile_48 rfl ?_
    refine kw_callVv (cl' := 0) (sl' := 0) (As := [.ref r0]) C (c_Writer_addHeader hl n ids ht hr0  σ6) mi_Writer_45 v_Writer_addHeader ⟨_, _, rfl⟩ ht ⟨Nat.le_of_ble_eq_true rfl, Nat.le_of_ble_eq_true rfl⟩ (Nat.le_of_ble_eq_true rfl) ⟨Nat.le_of_ble_eq_true rfl, Nat.le_of_ble_eq_true rfl⟩ ⟨rfl, rfl⟩ rfl d_Writer_writeFile_49 (fun σ7 => ?_)
    refine kw_aload_n C d_Writer_writeFile_52 rfl ?_
    refine kw_getI C fi_Writer_49 (Or.inl rfl) hr0 d_Writer_writeFile_53 ?_
    refine kw_j (α := Unit) (pcj := 64) (Lj := fun x9 => [some (.ref t), some (.ref r0), some (.int a1), none, none, none, none]) (stj := fun x9 => []) (fun x9 σ10 => ?_) (fun k8 hk8 => ?_)
    · refine kw_aload_n C d_Writer_writeFile_64 rfl ?_
      refine kw_getI C fi_Writer_57 (Or.inl rfl) hr0 d_Writer_writeFile_65 ?_
      refine kw_j (α := Unit) (pcj := 76) (Lj := fun x12 => [some (.ref t), some (.ref r0), some (.int a1), none, none, none, none]) (stj := fun x12 => []) (fun x12 σ13 => ?_) (fun k11 hk11 => ?_)
      · refine kw_aload_n C d_Writer_writeFile_76 rfl ?_
        refine kw_getR C fi_Writer_13 rfl rfl ht d_Writer_writeFile_77 (fun o14 ho14 => ?_)
        refine kw_aload_n C d_Writer_writeFile_80 rfl ?_
        refine kw_callVv (cl' := 0) (sl' := 0) (As := [.ref r0]) C (c_Rows_filterAll hl n ids ho14 hr0  σ13) mi_Writer_63 v_Rows_filterAll ⟨_, _, rfl⟩ ho14 ⟨Nat.le_of_ble_eq_true rfl, Nat.le_of_ble_eq_true rfl⟩ (Nat.le_of_ble_eq_true rfl) ⟨Nat.le_of_ble_eq_true rfl, Nat.le_of_ble_eq_true rfl⟩ ⟨rfl, rfl⟩ rfl d_Writer_writeFile_81 (fun σ15 => ?_)
        refine kw_aload_n C d_Writer_writeFile_84 rfl ?_
        refine kw_ldc (v := 1229209940) C d_Writer_writeFile_85 k_Writer_66 ?_
        refine kw_callVv (cl' := 0) (sl' := 0) (As := [.int 1229209940]) C (c_Writer_startPiece hl n ids ht 1229209940 σ15) mi_Writer_67 v_Writer_startPiece ⟨_, _, rfl⟩ ht ⟨Nat.le_of_ble_eq_true rfl, Nat.le_of_ble_eq_true rfl⟩ (Nat.le_of_ble_eq_true rfl) ⟨Nat.le_of_ble_eq_true rfl, Nat.le_of_ble_eq_true rfl⟩ ⟨rfl, rfl⟩ rfl d_Writer_writeFile_87 (fun σ16 => ?_)
        refine kw_aload_n C d_Writer_writeFile_90 rfl ?_
        refine kw_aload_n C d_Writer_writeFile_91 rfl ?_
        refine kw_getR C fi_Writer_70 rfl rfl hr0 d_Writer_writeFile_92 (fun o17 ho17 => ?_)
        refine kw_getI C fi_Writer_74 (Or.inl rfl) ho17 d_Writer_writeFile_95 ?_
        refine kw_iload_n C d_Writer_writeFile_98 rfl ?_
        refine kw_callVv (cl' := 0) (sl' := 0) (As := [.int (gS σ16 (64 * o17 + 1)), .int a1]) C (c_Writer_addPacked hl n ids ht (gS σ16 (64 * o17 + 1)) a1 σ16) mi_Writer_79 v_Writer_addPacked ⟨_, _, rfl⟩ ht ⟨Nat.le_of_ble_eq_true rfl, Nat.le_of_ble_eq_true rfl⟩ (Nat.le_of_ble_eq_true rfl) ⟨Nat.le_of_ble_eq_true rfl, Nat.le_of_ble_eq_true rfl⟩ ⟨rfl, rfl⟩ rfl d_Writer_writeFile_99 (fun σ18 => ?_)
        refine kw_aload_n C d_Writer_writeFile_102 rfl ?_
        refine kw_callVv (cl' := 0) (sl' := 0) (As := []) C (c_Writer_closePiece hl n ids ht  σ18) mi_Writer_83 v_Writer_closePiece ⟨_, _, rfl⟩ ht ⟨Nat.le_of_ble_eq_true rfl, Nat.le_of_ble_eq_true rfl⟩ (Nat.le_of_ble_eq_true rfl) ⟨Nat.le_of_ble_eq_true rfl, Nat.le_of_ble_eq_true rfl⟩ ⟨rfl, rfl⟩ rfl d_Writer_writeFile_103 (fun σ19 => ?_)
        refine kw_aload_n C d_Writer_writeFile_106 rfl ?_
        refine kw_ldc (v := 1229278788) C d_Writer_writeFile_107 k_Writer_86 ?_
        refine kw_callVv (cl' := 0) (sl' := 0) (As := [.int 1229278788]) C (c_Writer_startPiece hl n ids ht 1229278788 σ19) mi_Writer_67 v_Writer_startPiece ⟨_, _, rfl⟩ ht ⟨Nat.le_of_ble_eq_true rfl, Nat.le_of_ble_eq_true rfl⟩ (Nat.le_of_ble_eq_true rfl) ⟨Nat.le_of_ble_eq_true rfl, Nat.le_of_ble_eq_true rfl⟩ ⟨rfl, rfl⟩ rfl d_Writer_writeFile_109 (fun σ20 => ?_)
        refine kw_aload_n C d_Writer_writeFile_112 rfl ?_
        refine kw_callVv (cl' := 0) (sl' := 0) (As := []) C (c_Writer_closePiece hl n ids ht  σ20) mi_Writer_83 v_Writer_closePiece ⟨_, _, rfl⟩ ht ⟨Nat.le_of_ble_eq_true rfl, Nat.le_of_ble_eq_true rfl⟩ (Nat.le_of_ble_eq_true rfl) ⟨Nat.le_of_ble_eq_true rfl, Nat.le_of_ble_eq_true rfl⟩ ⟨rfl, rfl⟩ rfl d_Writer_writeFile_113 (fun σ21 => ?_)
        exact kw_vret C Ce rfl (by simp) (fun _ _ => rfl) (Nat.le_of_ble_eq_true rfl) (Nat.le_of_ble_eq_true rfl) rfl d_Writer_writeFile_116
      · refine kw_if_le (tgt := 76) C d_Writer_writeFile_68 (by decide) ?_ ?_
        · exact kw_wk (hk11 () σ10) ⟨Or.inr rfl, Or.inr rfl, Or.inr rfl, Or.inl rfl, Or.inl rfl, Or.inl rfl, Or.inl rfl, trivial⟩
        · refine kw_aload_n C d_Writer_writeFile_71 rfl ?_
          refine kw_aload_n C d_Writer_writeFile_72 rfl ?_
          refine kw_callVv (cl' := 0) (sl' := 0) (As := [.ref r0]) C (c_Writer_addThins hl n ids ht hr0  σ10) mi_Writer_60 v_Writer_addThins ⟨_, _, rfl⟩ ht ⟨Nat.le_of_ble_eq_true rfl, Nat.le_of_ble_eq_true rfl⟩ (Nat.le_of_ble_eq_true rfl) ⟨Nat.le_of_ble_eq_true rfl, Nat.le_of_ble_eq_true rfl⟩ ⟨rfl, rfl⟩ rfl d_Writer_writeFile_73 (fun σ22 => ?_)
          exact kw_wk (hk11 () σ22) ⟨Or.inr rfl, Or.inr rfl, Or.inr rfl, Or.inl rfl, Or.inl rfl, Or.inl rfl, Or.inl rfl, trivial⟩
    · refine kw_if_le (tgt := 64) C d_Writer_writeFile_56 (by decide) ?_ ?_
      · exact kw_wk (hk8 () σ7) ⟨Or.inr rfl, Or.inr rfl, Or.inr rfl, Or.inl rfl, Or.inl rfl, Or.inl rfl, Or.inl rfl, trivial⟩
      · refine kw_aload_n C d_Writer_writeFile_59 rfl ?_
        refine kw_aload_n C d_Writer_writeFile_60 rfl ?_
        refine kw_callVv (cl' := 0) (sl' := 0) (As := [.ref r0]) C (c_Writer_addColours hl n ids ht hr0  σ7) mi_Writer_54 v_Writer_addColours ⟨_, _, rfl⟩ ht ⟨Nat.le_of_ble_eq_true rfl, Nat.le_of_ble_eq_true rfl⟩ (Nat.le_of_ble_eq_true rfl) ⟨Nat.le_of_ble_eq_true rfl, Nat.le_of_ble_eq_true rfl⟩ ⟨rfl, rfl⟩ rfl d_Writer_writeFile_61 (fun σ23 => ?_)
        exact kw_wk (hk8 () σ23) ⟨Or.inr rfl, Or.inr rfl, Or.inr rfl, Or.inl rfl, Or.inl rfl, Or.inl rfl, Or.inl rfl, trivial⟩
  · refine kw_aload_n C d_Writer_writeFile_26 rfl ?_
    refine kw_iload C d_Writer_writeFile_27 rfl ?_
    refine kw_iald C (Or.inr rfl) d_Writer_writeFile_29 ?_
    refine kw_leti (fun x24 => ?_)
    refine kw_istore (L' := [some (.ref t), some (.ref r0), some (.int a1), some (.ref 100), some (.int x3), some (.int x5), some (.int x24)]) C d_Writer_writeFile_30 (by decide) rfl ?_
    refine kw_aload_n C d_Writer_writeFile_32 rfl ?_
    refine kw_getR C fi_Writer_7 rfl rfl ht d_Writer_writeFile_33 (fun o25 ho25 => ?_)
    refine kw_iload C d_Writer_writeFile_36 rfl ?_
    refine kw_callVv (cl' := 0) (sl' := 0) (As := [.int x24]) C (c_Tape_add hl n ids ho25 x24 σ6) mi_Writer_41 v_Tape_add ⟨_, _, rfl⟩ ho25 ⟨Nat.le_of_ble_eq_true rfl, Nat.le_of_ble_eq_true rfl⟩ (Nat.le_of_ble_eq_true rfl) ⟨Nat.le_of_ble_eq_true rfl, Nat.le_of_ble_eq_true rfl⟩ ⟨rfl, rfl⟩ rfl d_Writer_writeFile_38 (fun σ26 => ?_)
    refine kw_iincL (L2 := fun x27 => [some (.ref t), some (.ref r0), some (.int a1), some (.ref 100), some (.int x3), some (.int x27), some (.int x24)]) C d_Writer_writeFile_41 (by decide) rfl (fun _ => rfl) (fun x27 => ?_)
    refine kw_goto (tgt := 19) C d_Writer_writeFile_44 (by decide) ?_
    exact kw_wk (hk4 x27 σ26) ⟨Or.inr rfl, Or.inr rfl, Or.inr rfl, Or.inr rfl, Or.inr rfl, Or.inr rfl, Or.inl rfl, trivial⟩
/-! PF_write -/
def rm_PF_write : Room := { frames := 7, cells := 1, slots := 6, locals := 180 }
def F_PF_write (n : Nat) (t : Nat) (a0 : Int32) (σ : Mm) : Option ((Int32 ⊕ String) × Mm) :=
kf_t (F_PF_wantPicture n t σ) fun _ σ1 =>
Option.bind (gR σ1 (64 * t + 5)) fun o2 =>
Option.bind (gR σ1 (64 * t + 6)) fun o3 =>
Option.bind (F_Writer_writeFile n o2 o3 a0 σ1) fun σ4 =>
Option.bind (gR σ4 (64 * t + 0)) fun o5 =>
some (.inl (gS σ4 (64 * o5 + 1)), σ4)
theorem d_PF_write_0 : decode prog_1_method_16_code 0 = .ok (.aload_n 0, 1) := by decide +kernel
theorem d_PF_write_1 : decode prog_1_method_16_code 1 = .ok (.invokevirtual 136, 3) := by decide +kernel
theorem d_PF_write_4 : decode prog_1_method_16_code 4 = .ok (.aload_n 0, 1) := by decide +kernel
theorem d_PF_write_5 : decode prog_1_method_16_code 5 = .ok (.getfield 58, 3) := by decide +kernel
theorem d_PF_write_8 : decode prog_1_method_16_code 8 = .ok (.aload_n 0, 1) := by decide +kernel
theorem d_PF_write_9 : decode prog_1_method_16_code 9 = .ok (.getfield 65, 3) := by decide +kernel
theorem d_PF_write_12 : decode prog_1_method_16_code 12 = .ok (.iload_n 1, 1) := by decide +kernel
theorem d_PF_write_13 : decode prog_1_method_16_code 13 = .ok (.invokevirtual 211, 3) := by decide +kernel
theorem d_PF_write_16 : decode prog_1_method_16_code 16 = .ok (.aload_n 0, 1) := by decide +kernel
theorem d_PF_write_17 : decode prog_1_method_16_code 17 = .ok (.getfield 10, 3) := by decide +kernel
theorem d_PF_write_20 : decode prog_1_method_16_code 20 = .ok (.getfield 76, 3) := by decide +kernel
theorem d_PF_write_23 : decode prog_1_method_16_code 23 = .ok (.ireturn, 1) := by decide +kernel
set_option maxRecDepth 100000 in
set_option maxHeartbeats 4000000 in
theorem c_PF_write {l0 : Launch} (hl : l0.stackTraces = false) (n : Nat) (ids : List Nat) {t : Nat} (ht : mm_ok ids t 1 0) (a0 : Int32) (σ : Mm) : kw_C l0 y_PF_write (Cond.code y_PF_write prog_1_method_16_code 2 (some .int) :: kw_Ts) rm_PF_write kw_oti ids [] [.ref t, .int a0] σ (F_PF_write n t a0 σ) := by
  refine kw_start (L0 := [some (.ref t), some (.int a0)]) hl (by decide +kernel) (Nat.le_of_ble_eq_true rfl) rfl (fun Γ ad C Ce => ?_)
  unfold F_PF_write
  refine kw_aload_n C d_PF_write_0 rfl ?_
  refine kw_callVt (As := []) (cl' := 1) (sl' := 6) C Ce (fun _ _ => rfl) (c_PF_wantPicture hl n ids ht  σ) mi_PF_136 v_PF_wantPicture ⟨_, _, rfl⟩ ht ⟨Nat.le_of_ble_eq_true rfl, Nat.le_of_ble_eq_true rfl⟩ (Nat.le_of_ble_eq_true rfl) ⟨Nat.le_of_ble_eq_true rfl, Nat.le_of_ble_eq_true rfl⟩ ⟨rfl, rfl⟩ rfl (by simp) (fun _ _ => rfl) d_PF_write_1 (fun _ σ1 => ?_)
  refine kw_aload_n C d_PF_write_4 rfl ?_
  refine kw_getR C fi_PF_58 rfl rfl ht d_PF_write_5 (fun o2 ho2 => ?_)
  refine kw_aload_n C d_PF_write_8 rfl ?_
  refine kw_getR C fi_PF_65 rfl rfl ht d_PF_write_9 (fun o3 ho3 => ?_)
  refine kw_iload_n C d_PF_write_12 rfl ?_
  refine kw_callVv (cl' := 1) (sl' := 6) (As := [.ref o3, .int a0]) C (c_Writer_writeFile hl n ids ho2 ho3 a0 σ1) mi_PF_211 v_Writer_writeFile ⟨_, _, rfl⟩ ho2 ⟨Nat.le_of_ble_eq_true rfl, Nat.le_of_ble_eq_true rfl⟩ (Nat.le_of_ble_eq_true rfl) ⟨Nat.le_of_ble_eq_true rfl, Nat.le_of_ble_eq_true rfl⟩ ⟨rfl, rfl⟩ rfl d_PF_write_13 (fun σ4 => ?_)
  refine kw_aload_n C d_PF_write_16 rfl ?_
  refine kw_getR C fi_PF_10 rfl rfl ht d_PF_write_17 (fun o5 ho5 => ?_)
  refine kw_getI C fi_PF_76 (Or.inl rfl) ho5 d_PF_write_20 ?_
  exact kw_iret C Ce rfl (by simp) (fun _ _ => rfl) (Nat.le_of_ble_eq_true rfl) (Nat.le_of_ble_eq_true rfl) rfl d_PF_write_23
/-! PF_wantByte -/
def rm_PF_wantByte : Room := { frames := 6, cells := 1, slots := 6, locals := 89 }
def F_PF_wantByte (n : Nat) (t : Nat) (a0 : Int32) (σ : Mm) : Option ((Unit ⊕ String) × Mm) :=
kf_j (α := Unit) (fun x2 σ3 =>
some (.inr "java/lang/IndexOutOfBoundsException", σ3)) fun k1 =>
if a0 < 0 then (
k1 () σ) else (
Option.bind (gR σ (64 * t + 0)) fun o4 =>
if a0 < (gS σ (64 * o4 + 1)) then (
some (.inl (), σ)) else (
k1 () σ))
theorem d_PF_wantByte_0 : decode prog_1_method_23_code 0 = .ok (.iload_n 1, 1) := by decide +kernel
theorem d_PF_wantByte_1 : decode prog_1_method_23_code 1 = .ok (.ifCond .lt 14, 3) := by decide +kernel
theorem d_PF_wantByte_4 : decode prog_1_method_23_code 4 = .ok (.iload_n 1, 1) := by decide +kernel
theorem d_PF_wantByte_5 : decode prog_1_method_23_code 5 = .ok (.aload_n 0, 1) := by decide +kernel
theorem d_PF_wantByte_6 : decode prog_1_method_23_code 6 = .ok (.getfield 10, 3) := by decide +kernel
theorem d_PF_wantByte_9 : decode prog_1_method_23_code 9 = .ok (.getfield 76, 3) := by decide +kernel
theorem d_PF_wantByte_12 : decode prog_1_method_23_code 12 = .ok (.if_icmp .lt 11, 3) := by decide +kernel
theorem d_PF_wantByte_15 : decode prog_1_method_23_code 15 = .ok (.new 177, 3) := by decide +kernel
theorem d_PF_wantByte_18 : decode prog_1_method_23_code 18 = .ok (.dup, 1) := by decide +kernel
theorem d_PF_wantByte_19 : decode prog_1_method_23_code 19 = .ok (.invokespecial 179, 3) := by decide +kernel
theorem d_PF_wantByte_22 : decode prog_1_method_23_code 22 = .ok (.athrow, 1) := by decide +kernel
theorem d_PF_wantByte_23 : decode prog_1_method_23_code 23 = .ok (.return_, 1) := by decide +kernel
set_option maxRecDepth 100000 in
set_option maxHeartbeats 4000000 in
theorem c_PF_wantByte {l0 : Launch} (hl : l0.stackTraces = false) (n : Nat) (ids : List Nat) {t : Nat} (ht : mm_ok ids t 1 0) (a0 : Int32) (σ : Mm) : kw_C l0 y_PF_wantByte (Cond.code y_PF_wantByte prog_1_method_23_code 2 none :: kw_Ts) rm_PF_wantByte kw_otv ids [] [.ref t, .int a0] σ (F_PF_wantByte n t a0 σ) := by
  refine kw_start (L0 := [some (.ref t), some (.int a0)]) hl (by decide +kernel) (Nat.le_of_ble_eq_true rfl) rfl (fun Γ ad C Ce => ?_)
  unfold F_PF_wantByte
  refine kw_iload_n C d_PF_wantByte_0 rfl ?_
  refine kw_j (α := Unit) (pcj := 15) (Lj := fun x2 => [none, none]) (stj := fun x2 => []) (fun x2 σ3 => ?_) (fun k1 hk1 => ?_)
  · exact kw_throw0 C Ce ti_PF_177_179 (by simp) (fun _ _ => rfl) (Nat.le_of_ble_eq_true rfl) (Nat.le_of_ble_eq_true rfl) (Nat.le_of_ble_eq_true rfl) (Nat.le_of_ble_eq_true rfl) d_PF_wantByte_15 d_PF_wantByte_18 d_PF_wantByte_19 d_PF_wantByte_22 rfl
  · refine kw_if_lt (tgt := 15) C d_PF_wantByte_1 (by decide) ?_ ?_
    · exact kw_wk (hk1 () σ) ⟨Or.inl rfl, Or.inl rfl, trivial⟩
    · refine kw_iload_n C d_PF_wantByte_4 rfl ?_
      refine kw_aload_n C d_PF_wantByte_5 rfl ?_
      refine kw_getR C fi_PF_10 rfl rfl ht d_PF_wantByte_6 (fun o4 ho4 => ?_)
      refine kw_getI C fi_PF_76 (Or.inl rfl) ho4 d_PF_wantByte_9 ?_
      refine kw_icmp_lt (tgt := 23) C d_PF_wantByte_12 (by decide) ?_ ?_
      · exact kw_vret C Ce rfl (by simp) (fun _ _ => rfl) (Nat.le_of_ble_eq_true rfl) (Nat.le_of_ble_eq_true rfl) rfl d_PF_wantByte_23
      · exact kw_wk (hk1 () σ) ⟨Or.inl rfl, Or.inl rfl, trivial⟩
/-! PF_byteAt -/
def rm_PF_byteAt : Room := { frames := 7, cells := 1, slots := 6, locals := 110 }
def F_PF_byteAt (n : Nat) (t : Nat) (a0 : Int32) (σ : Mm) : Option ((Int32 ⊕ String) × Mm) :=
kf_t (F_PF_wantByte n t a0 σ) fun _ σ1 =>
Option.bind (gR σ1 (64 * t + 0)) fun o2 =>
Option.bind (gR σ1 (64 * o2 + 0)) fun o3 =>
kf_in a0 (mm_kd o3).2.2 <|
some (.inl (gB σ1 o3 a0.toNatClampNeg), σ1)
theorem d_PF_byteAt_0 : decode prog_1_method_17_code 0 = .ok (.aload_n 0, 1) := by decide +kernel
theorem d_PF_byteAt_1 : decode prog_1_method_17_code 1 = .ok (.iload_n 1, 1) := by decide +kernel
theorem d_PF_byteAt_2 : decode prog_1_method_17_code 2 = .ok (.invokevirtual 215, 3) := by decide +kernel
theorem d_PF_byteAt_5 : decode prog_1_method_17_code 5 = .ok (.aload_n 0, 1) := by decide +kernel
theorem d_PF_byteAt_6 : decode prog_1_method_17_code 6 = .ok (.getfield 10, 3) := by decide +kernel
theorem d_PF_byteAt_9 : decode prog_1_method_17_code 9 = .ok (.getfield 218, 3) := by decide +kernel
theorem d_PF_byteAt_12 : decode prog_1_method_17_code 12 = .ok (.iload_n 1, 1) := by decide +kernel
theorem d_PF_byteAt_13 : decode prog_1_method_17_code 13 = .ok (.iaload, 1) := by decide +kernel
theorem d_PF_byteAt_14 : decode prog_1_method_17_code 14 = .ok (.ireturn, 1) := by decide +kernel
set_option maxRecDepth 100000 in
set_option maxHeartbeats 4000000 in
theorem c_PF_byteAt {l0 : Launch} (hl : l0.stackTraces = false) (n : Nat) (ids : List Nat) {t : Nat} (ht : mm_ok ids t 1 0) (a0 : Int32) (σ : Mm) : kw_C l0 y_PF_byteAt (Cond.code y_PF_byteAt prog_1_method_17_code 2 (some .int) :: kw_Ts) rm_PF_byteAt kw_oti ids [] [.ref t, .int a0] σ (F_PF_byteAt n t a0 σ) := by
  refine kw_start (L0 := [some (.ref t), some (.int a0)]) hl (by decide +kernel) (Nat.le_of_ble_eq_true rfl) rfl (fun Γ ad C Ce => ?_)
  unfold F_PF_byteAt
  refine kw_aload_n C d_PF_byteAt_0 rfl ?_
  refine kw_iload_n C d_PF_byteAt_1 rfl ?_
  refine kw_callVt (As := [.int a0]) (cl' := 1) (sl' := 6) C Ce (fun _ _ => rfl) (c_PF_wantByte hl n ids ht a0 σ) mi_PF_215 v_PF_wantByte ⟨_, _, rfl⟩ ht ⟨Nat.le_of_ble_eq_true rfl, Nat.le_of_ble_eq_true rfl⟩ (Nat.le_of_ble_eq_true rfl) ⟨Nat.le_of_ble_eq_true rfl, Nat.le_of_ble_eq_true rfl⟩ ⟨rfl, rfl⟩ rfl (by simp) (fun _ _ => rfl) d_PF_byteAt_2 (fun _ σ1 => ?_)
  refine kw_aload_n C d_PF_byteAt_5 rfl ?_
  refine kw_getR C fi_PF_10 rfl rfl ht d_PF_byteAt_6 (fun o2 ho2 => ?_)
  refine kw_getR C fi_PF_218 rfl rfl ho2 d_PF_byteAt_9 (fun o3 ho3 => ?_)
  refine kw_iload_n C d_PF_byteAt_12 rfl ?_
  refine kw_iald C (Or.inl ⟨ho3.1, ho3.2.1⟩) d_PF_byteAt_13 ?_
  exact kw_iret C Ce rfl (by simp) (fun _ _ => rfl) (Nat.le_of_ble_eq_true rfl) (Nat.le_of_ble_eq_true rfl) rfl d_PF_byteAt_14
/-! PF_spoil -/
def rm_PF_spoil : Room := { frames := 7, cells := 1, slots := 6, locals := 110 }
def F_PF_spoil (n : Nat) (t : Nat) (a0 : Int32) (a1 : Int32) (σ : Mm) : Option ((Unit ⊕ String) × Mm) :=
kf_t (F_PF_wantByte n t a0 σ) fun _ σ1 =>
Option.bind (gR σ1 (64 * t + 0)) fun o2 =>
Option.bind (gR σ1 (64 * o2 + 0)) fun o3 =>
kf_in a0 (mm_kd o3).2.2 <| kf_let (pB σ1 o3 a0.toNatClampNeg (a1 &&& 255)) fun σ4 =>
some (.inl (), σ4)
theorem d_PF_spoil_0 : decode prog_1_method_18_code 0 = .ok (.aload_n 0, 1) := by decide +kernel
theorem d_PF_spoil_1 : decode prog_1_method_18_code 1 = .ok (.iload_n 1, 1) := by decide +kernel
theorem d_PF_spoil_2 : decode prog_1_method_18_code 2 = .ok (.invokevirtual 215, 3) := by decide +kernel
theorem d_PF_spoil_5 : decode prog_1_method_18_code 5 = .ok (.aload_n 0, 1) := by decide +kernel
theorem d_PF_spoil_6 : decode prog_1_method_18_code 6 = .ok (.getfield 10, 3) := by decide +kernel
theorem d_PF_spoil_9 : decode prog_1_method_18_code 9 = .ok (.getfield 218, 3) := by decide +kernel
theorem d_PF_spoil_12 : decode prog_1_method_18_code 12 = .ok (.iload_n 1, 1) := by decide +kernel
theorem d_PF_spoil_13 : decode prog_1_method_18_code 13 = .ok (.iload_n 2, 1) := by decide +kernel
theorem d_PF_spoil_14 : decode prog_1_method_18_code 14 = .ok (.sipush 255, 3) := by decide +kernel
theorem d_PF_spoil_17 : decode prog_1_method_18_code 17 = .ok (.iand, 1) := by decide +kernel
theorem d_PF_spoil_18 : decode prog_1_method_18_code 18 = .ok (.iastore, 1) := by decide +kernel
theorem d_PF_spoil_19 : decode prog_1_method_18_code 19 = .ok (.return_, 1) := by decide +kernel
set_option maxRecDepth 100000 in
set_option maxHeartbeats 4000000 in
theorem c_PF_spoil {l0 : Launch} (hl : l0.stackTraces = false) (n : Nat) (ids : List Nat) {t : Nat} (ht : mm_ok ids t 1 0) (a0 : Int32) (a1 : Int32) (σ : Mm) : kw_C l0 y_PF_spoil (Cond.code y_PF_spoil prog_1_method_18_code 3 none :: kw_Ts) rm_PF_spoil kw_otv ids [] [.ref t, .int a0, .int a1] σ (F_PF_spoil n t a0 a1 σ) := by
  refine kw_start (L0 := [some (.ref t), some (.int a0), some (.int a1)]) hl (by decide +kernel) (Nat.le_of_ble_eq_true rfl) rfl (fun Γ ad C Ce => ?_)
  unfold F_PF_spoil
  refine kw_aload_n C d_PF_spoil_0 rfl ?_
  refine kw_iload_n C d_PF_spoil_1 rfl ?_
  refine kw_callVt (As := [.int a0]) (cl' := 1) (sl' := 6) C Ce (fun _ _ => rfl) (c_PF_wantByte hl n ids ht a0 σ) mi_PF_215 v_PF_wantByte ⟨_, _, rfl⟩ ht ⟨Nat.le_of_ble_eq_true rfl, Nat.le_of_ble_eq_true rfl⟩ (Nat.le_of_ble_eq_true rfl) ⟨Nat.le_of_ble_eq_true rfl, Nat.le_of_ble_eq_true rfl⟩ ⟨rfl, rfl⟩ rfl (by simp) (fun _ _ => rfl) d_PF_spoil_2 (fun _ σ1 => ?_)
  refine kw_aload_n C d_PF_spoil_5 rfl ?_
  refine kw_getR C fi_PF_10 rfl rfl ht d_PF_spoil_6 (fun o2 ho2 => ?_)
  refine kw_getR C fi_PF_218 rfl rfl ho2 d_PF_spoil_9 (fun o3 ho3 => ?_)
  refine kw_iload_n C d_PF_spoil_12 rfl ?_
  refine kw_iload_n C d_PF_spoil_13 rfl ?_
  refine kw_sipush (v := 255) C d_PF_spoil_14 (by decide) ?_
  refine kw_iand C d_PF_spoil_17 ?_
  refine kw_iast C ho3 d_PF_spoil_18 (fun σ4 => ?_)
  exact kw_vret C Ce rfl (by simp) (fun _ _ => rfl) (Nat.le_of_ble_eq_true rfl) (Nat.le_of_ble_eq_true rfl) rfl d_PF_spoil_19
/-! PF_mend -/
def rm_PF_mend : Room := { frames := 6, cells := 1, slots := 6, locals := 89 }
def F_PF_mend (n : Nat) (t : Nat) (a0 : Int32) (a1 : Int32) (σ : Mm) : Option ((Unit ⊕ String) × Mm) :=
kf_j (α := Unit) (fun x2 σ3 =>
some (.inr "java/lang/IndexOutOfBoundsException", σ3)) fun k1 =>
if a0 < 0 then (
k1 () σ) else (
if a1 < 0 then (
k1 () σ) else (
Option.bind (gR σ (64 * t + 0)) fun o4 =>
if (lg_cmp ((a0.toInt64 + a1.toInt64) + 4) ((gS σ (64 * o4 + 1)).toInt64)) ≤ 0 then (
Option.bind (gR σ (64 * t + 0)) fun o5 =>
Option.bind (gR σ (64 * t + 0)) fun o6 =>
kf_c2 (F_Tape_check n o6 a0 (a0 + a1) σ) fun x7 σ8 =>
Option.bind (F_Tape_putNumber n o5 (a0 + a1) x7 σ8) fun σ9 =>
some (.inl (), σ9)) else (
k1 () σ)))
theorem d_PF_mend_0 : decode prog_1_method_19_code 0 = .ok (.iload_n 1, 1) := by decide +kernel
theorem d_PF_mend_1 : decode prog_1_method_19_code 1 = .ok (.ifCond .lt 28, 3) := by decide +kernel
theorem d_PF_mend_4 : decode prog_1_method_19_code 4 = .ok (.iload_n 2, 1) := by decide +kernel
theorem d_PF_mend_5 : decode prog_1_method_19_code 5 = .ok (.ifCond .lt 24, 3) := by decide +kernel
theorem d_PF_mend_8 : decode prog_1_method_19_code 8 = .ok (.iload_n 1, 1) := by decide +kernel
theorem d_PF_mend_9 : decode prog_1_method_19_code 9 = .ok (.i2l, 1) := by decide +kernel
theorem d_PF_mend_10 : decode prog_1_method_19_code 10 = .ok (.iload_n 2, 1) := by decide +kernel
theorem d_PF_mend_11 : decode prog_1_method_19_code 11 = .ok (.i2l, 1) := by decide +kernel
theorem d_PF_mend_12 : decode prog_1_method_19_code 12 = .ok (.ladd, 1) := by decide +kernel
theorem d_PF_mend_13 : decode prog_1_method_19_code 13 = .ok (.ldc2_w 221, 3) := by decide +kernel
theorem d_PF_mend_16 : decode prog_1_method_19_code 16 = .ok (.ladd, 1) := by decide +kernel
theorem d_PF_mend_17 : decode prog_1_method_19_code 17 = .ok (.aload_n 0, 1) := by decide +kernel
theorem d_PF_mend_18 : decode prog_1_method_19_code 18 = .ok (.getfield 10, 3) := by decide +kernel
theorem d_PF_mend_21 : decode prog_1_method_19_code 21 = .ok (.getfield 76, 3) := by decide +kernel
theorem d_PF_mend_24 : decode prog_1_method_19_code 24 = .ok (.i2l, 1) := by decide +kernel
theorem d_PF_mend_25 : decode prog_1_method_19_code 25 = .ok (.lcmp, 1) := by decide +kernel
theorem d_PF_mend_26 : decode prog_1_method_19_code 26 = .ok (.ifCond .le 11, 3) := by decide +kernel
theorem d_PF_mend_29 : decode prog_1_method_19_code 29 = .ok (.new 177, 3) := by decide +kernel
theorem d_PF_mend_32 : decode prog_1_method_19_code 32 = .ok (.dup, 1) := by decide +kernel
theorem d_PF_mend_33 : decode prog_1_method_19_code 33 = .ok (.invokespecial 179, 3) := by decide +kernel
theorem d_PF_mend_36 : decode prog_1_method_19_code 36 = .ok (.athrow, 1) := by decide +kernel
theorem d_PF_mend_37 : decode prog_1_method_19_code 37 = .ok (.aload_n 0, 1) := by decide +kernel
theorem d_PF_mend_38 : decode prog_1_method_19_code 38 = .ok (.getfield 10, 3) := by decide +kernel
theorem d_PF_mend_41 : decode prog_1_method_19_code 41 = .ok (.iload_n 1, 1) := by decide +kernel
theorem d_PF_mend_42 : decode prog_1_method_19_code 42 = .ok (.iload_n 2, 1) := by decide +kernel
theorem d_PF_mend_43 : decode prog_1_method_19_code 43 = .ok (.iadd, 1) := by decide +kernel
theorem d_PF_mend_44 : decode prog_1_method_19_code 44 = .ok (.aload_n 0, 1) := by decide +kernel
theorem d_PF_mend_45 : decode prog_1_method_19_code 45 = .ok (.getfield 10, 3) := by decide +kernel
theorem d_PF_mend_48 : decode prog_1_method_19_code 48 = .ok (.iload_n 1, 1) := by decide +kernel
theorem d_PF_mend_49 : decode prog_1_method_19_code 49 = .ok (.iload_n 1, 1) := by decide +kernel
theorem d_PF_mend_50 : decode prog_1_method_19_code 50 = .ok (.iload_n 2, 1) := by decide +kernel
theorem d_PF_mend_51 : decode prog_1_method_19_code 51 = .ok (.iadd, 1) := by decide +kernel
theorem d_PF_mend_52 : decode prog_1_method_19_code 52 = .ok (.invokevirtual 223, 3) := by decide +kernel
theorem d_PF_mend_55 : decode prog_1_method_19_code 55 = .ok (.invokevirtual 226, 3) := by decide +kernel
theorem d_PF_mend_58 : decode prog_1_method_19_code 58 = .ok (.return_, 1) := by decide +kernel
set_option maxRecDepth 100000 in
set_option maxHeartbeats 4000000 in
theorem c_PF_mend {l0 : Launch} (hl : l0.stackTraces = false) (n : Nat) (ids : List Nat) {t : Nat} (ht : mm_ok ids t 1 0) (a0 : Int32) (a1 : Int32) (σ : Mm) : kw_C l0 y_PF_mend (Cond.code y_PF_mend prog_1_method_19_code 3 none :: kw_Ts) rm_PF_mend kw_otv ids [] [.ref t, .int a0, .int a1] σ (F_PF_mend n t a0 a1 σ) := by
  refine kw_start (L0 := [some (.ref t), some (.int a0), some (.int a1)]) hl (by decide +kernel) (Nat.le_of_ble_eq_true rfl) rfl (fun Γ ad C Ce => ?_)
  unfold F_PF_mend
  refine kw_iload_n C d_PF_mend_0 rfl ?_
  refine kw_j (α := Unit) (pcj := 29) (Lj := fun x2 => [none, none, none]) (stj := fun x2 => []) (fun x2 σ3 => ?_) (fun k1 hk1 => ?_)
  · exact kw_throw0 C Ce ti_PF_177_179 (by simp) (fun _ _ => rfl) (Nat.le_of_ble_eq_true rfl) (Nat.le_of_ble_eq_true rfl) (Nat.le_of_ble_eq_true rfl) (Nat.le_of_ble_eq_true rfl) d_PF_mend_29 d_PF_mend_32 d_PF_mend_33 d_PF_mend_36 rfl
  · refine kw_if_lt (tgt := 29) C d_PF_mend_1 (by decide) ?_ ?_
    · exact kw_wk (hk1 () σ) ⟨Or.inl rfl, Or.inl rfl, Or.inl rfl, trivial⟩
    · refine kw_iload_n C d_PF_mend_4 rfl ?_
      refine kw_if_lt (tgt := 29) C d_PF_mend_5 (by decide) ?_ ?_
      · exact kw_wk (hk1 () σ) ⟨Or.inl rfl, Or.inl rfl, Or.inl rfl, trivial⟩
      · refine kw_iload_n C d_PF_mend_8 rfl ?_
        refine kw_i2l C d_PF_mend_9 ?_
        refine kw_iload_n C d_PF_mend_10 rfl ?_
        refine kw_i2l C d_PF_mend_11 ?_
        refine kw_ladd C d_PF_mend_12 ?_
        refine kw_ldc2 (v := 4) C d_PF_mend_13 k_PF_221 ?_
        refine kw_ladd C d_PF_mend_16 ?_
        refine kw_aload_n C d_PF_mend_17 rfl ?_
        refine kw_getR C fi_PF_10 rfl rfl ht d_PF_mend_18 (fun o4 ho4 => ?_)
        refine kw_getI C fi_PF_76 (Or.inl rfl) ho4 d_PF_mend_21 ?_
        refine kw_i2l C d_PF_mend_24 ?_
        refine kw_lcmp C d_PF_mend_25 ?_
        refine kw_if_le (tgt := 37) C d_PF_mend_26 (by decide) ?_ ?_
        · refine kw_aload_n C d_PF_mend_37 rfl ?_
          refine kw_getR C fi_PF_10 rfl rfl ht d_PF_mend_38 (fun o5 ho5 => ?_)
          refine kw_iload_n C d_PF_mend_41 rfl ?_
          refine kw_iload_n C d_PF_mend_42 rfl ?_
          refine kw_iadd C d_PF_mend_43 ?_
          refine kw_aload_n C d_PF_mend_44 rfl ?_
          refine kw_getR C fi_PF_10 rfl rfl ht d_PF_mend_45 (fun o6 ho6 => ?_)
          refine kw_iload_n C d_PF_mend_48 rfl ?_
          refine kw_iload_n C d_PF_mend_49 rfl ?_
          refine kw_iload_n C d_PF_mend_50 rfl ?_
          refine kw_iadd C d_PF_mend_51 ?_
          refine kw_callVi (cl' := 0) (sl' := 0) (As := [.int a0, .int (a0 + a1)]) C (c_Tape_check hl n ids ho6 a0 (a0 + a1) σ) mi_PF_223 v_Tape_check ⟨_, _, rfl⟩ ho6 ⟨Nat.le_of_ble_eq_true rfl, Nat.le_of_ble_eq_true rfl⟩ (Nat.le_of_ble_eq_true rfl) ⟨Nat.le_of_ble_eq_true rfl, Nat.le_of_ble_eq_true rfl⟩ ⟨rfl, rfl⟩ rfl d_PF_mend_52 (fun x7 σ8 => ?_)
          refine kw_callVv (cl' := 0) (sl' := 0) (As := [.int (a0 + a1), .int x7]) C (c_Tape_putNumber hl n ids ho5 (a0 + a1) x7 σ8) mi_PF_226 v_Tape_putNumber ⟨_, _, rfl⟩ ho5 ⟨Nat.le_of_ble_eq_true rfl, Nat.le_of_ble_eq_true rfl⟩ (Nat.le_of_ble_eq_true rfl) ⟨Nat.le_of_ble_eq_true rfl, Nat.le_of_ble_eq_true rfl⟩ ⟨rfl, rfl⟩ rfl d_PF_mend_55 (fun σ9 => ?_)
          exact kw_vret C Ce rfl (by simp) (fun _ _ => rfl) (Nat.le_of_ble_eq_true rfl) (Nat.le_of_ble_eq_true rfl) rfl d_PF_mend_58
        · exact kw_wk (hk1 () σ) ⟨Or.inl rfl, Or.inl rfl, Or.inl rfl, trivial⟩
/-! Md_max -/
def rm_Md_max : Room := { frames := 0, cells := 0, slots := 0, locals := 0 }
def F_Md_max (n : Nat) (a0 : Int32) (a1 : Int32) (σ : Mm) : Option (Int32 × Mm) :=
kf_j (α := Int32) (fun x2 σ3 =>
some (x2, σ3)) fun k1 =>
if a0 ≤ a1 then (
k1 a1 σ) else (
k1 a0 σ)
theorem d_Md_max_0 : decode prog_14_method_2_code 0 = .ok (.iload_n 0, 1) := by decide +kernel
theorem d_Md_max_1 : decode prog_14_method_2_code 1 = .ok (.iload_n 1, 1) := by decide +kernel
theorem d_Md_max_2 : decode prog_14_method_2_code 2 = .ok (.if_icmp .le 7, 3) := by decide +kernel
theorem d_Md_max_5 : decode prog_14_method_2_code 5 = .ok (.iload_n 0, 1) := by decide +kernel
theorem d_Md_max_6 : decode prog_14_method_2_code 6 = .ok (.goto 4, 3) := by decide +kernel
theorem d_Md_max_9 : decode prog_14_method_2_code 9 = .ok (.iload_n 1, 1) := by decide +kernel
theorem d_Md_max_10 : decode prog_14_method_2_code 10 = .ok (.ireturn, 1) := by decide +kernel
set_option maxRecDepth 100000 in
set_option maxHeartbeats 4000000 in
theorem c_Md_max {l0 : Launch} (hl : l0.stackTraces = false) (n : Nat) (ids : List Nat)  (a0 : Int32) (a1 : Int32) (σ : Mm) : kw_C l0 y_Md_max (Cond.code y_Md_max prog_14_method_2_code 2 (some .int) :: kw_Ts) rm_Md_max kw_oi ids [] [.int a0, .int a1] σ (F_Md_max n a0 a1 σ) := by
  refine kw_start (L0 := [some (.int a0), some (.int a1)]) hl (by decide +kernel) (Nat.le_of_ble_eq_true rfl) rfl (fun Γ ad C Ce => ?_)
  unfold F_Md_max
  refine kw_iload_n C d_Md_max_0 rfl ?_
  refine kw_iload_n C d_Md_max_1 rfl ?_
  refine kw_j (α := Int32) (pcj := 10) (Lj := fun x2 => [none, none]) (stj := fun x2 => [.int x2]) (fun x2 σ3 => ?_) (fun k1 hk1 => ?_)
  · exact kw_iret C Ce rfl (by simp) (fun _ _ => rfl) (Nat.le_of_ble_eq_true rfl) (Nat.le_of_ble_eq_true rfl) rfl d_Md_max_10
  · refine kw_icmp_le (tgt := 9) C d_Md_max_2 (by decide) ?_ ?_
    · refine kw_iload_n C d_Md_max_9 rfl ?_
      exact kw_wk (hk1 a1 σ) ⟨Or.inl rfl, Or.inl rfl, trivial⟩
    · refine kw_iload_n C d_Md_max_5 rfl ?_
      refine kw_goto (tgt := 10) C d_Md_max_6 (by decide) ?_
      exact kw_wk (hk1 a0 σ) ⟨Or.inl rfl, Or.inl rfl, trivial⟩
/-! Md_min -/
def rm_Md_min : Room := { frames := 0, cells := 0, slots := 0, locals := 0 }
def F_Md_min (n : Nat) (a0 : Int32) (a1 : Int32) (σ : Mm) : Option (Int32 × Mm) :=
kf_j (α := Int32) (fun x2 σ3 =>
some (x2, σ3)) fun k1 =>
if a1 ≤ a0 then (
k1 a1 σ) else (
k1 a0 σ)
theorem d_Md_min_0 : decode prog_14_method_3_code 0 = .ok (.iload_n 0, 1) := by decide +kernel
theorem d_Md_min_1 : decode prog_14_method_3_code 1 = .ok (.iload_n 1, 1) := by decide +kernel
theorem d_Md_min_2 : decode prog_14_method_3_code 2 = .ok (.if_icmp .ge 7, 3) := by decide +kernel
theorem d_Md_min_5 : decode prog_14_method_3_code 5 = .ok (.iload_n 0, 1) := by decide +kernel
theorem d_Md_min_6 : decode prog_14_method_3_code 6 = .ok (.goto 4, 3) := by decide +kernel
theorem d_Md_min_9 : decode prog_14_method_3_code 9 = .ok (.iload_n 1, 1) := by decide +kernel
theorem d_Md_min_10 : decode prog_14_method_3_code 10 = .ok (.ireturn, 1) := by decide +kernel
set_option maxRecDepth 100000 in
set_option maxHeartbeats 4000000 in
theorem c_Md_min {l0 : Launch} (hl : l0.stackTraces = false) (n : Nat) (ids : List Nat)  (a0 : Int32) (a1 : Int32) (σ : Mm) : kw_C l0 y_Md_min (Cond.code y_Md_min prog_14_method_3_code 2 (some .int) :: kw_Ts) rm_Md_min kw_oi ids [] [.int a0, .int a1] σ (F_Md_min n a0 a1 σ) := by
  refine kw_start (L0 := [some (.int a0), some (.int a1)]) hl (by decide +kernel) (Nat.le_of_ble_eq_true rfl) rfl (fun Γ ad C Ce => ?_)
  unfold F_Md_min
  refine kw_iload_n C d_Md_min_0 rfl ?_
  refine kw_iload_n C d_Md_min_1 rfl ?_
  refine kw_j (α := Int32) (pcj := 10) (Lj := fun x2 => [none, none]) (stj := fun x2 => [.int x2]) (fun x2 σ3 => ?_) (fun k1 hk1 => ?_)
  · exact kw_iret C Ce rfl (by simp) (fun _ _ => rfl) (Nat.le_of_ble_eq_true rfl) (Nat.le_of_ble_eq_true rfl) rfl d_Md_min_10
  · refine kw_icmp_ge (tgt := 9) C d_Md_min_2 (by decide) ?_ ?_
    · refine kw_iload_n C d_Md_min_9 rfl ?_
      exact kw_wk (hk1 a1 σ) ⟨Or.inl rfl, Or.inl rfl, trivial⟩
    · refine kw_iload_n C d_Md_min_5 rfl ?_
      refine kw_goto (tgt := 10) C d_Md_min_6 (by decide) ?_
      exact kw_wk (hk1 a0 σ) ⟨Or.inl rfl, Or.inl rfl, trivial⟩
/-! Md_size -/
def rm_Md_size : Room := { frames := 0, cells := 0, slots := 0, locals := 0 }
def F_Md_size (n : Nat) (a0 : Int32) (σ : Mm) : Option (Int32 × Mm) :=
kf_j (α := Int32) (fun x2 σ3 =>
some (x2, σ3)) fun k1 =>
if 0 ≤ a0 then (
k1 a0 σ) else (
k1 (-a0) σ)
theorem d_Md_size_0 : decode prog_14_method_4_code 0 = .ok (.iload_n 0, 1) := by decide +kernel
theorem d_Md_size_1 : decode prog_14_method_4_code 1 = .ok (.ifCond .ge 8, 3) := by decide +kernel
theorem d_Md_size_4 : decode prog_14_method_4_code 4 = .ok (.iload_n 0, 1) := by decide +kernel
theorem d_Md_size_5 : decode prog_14_method_4_code 5 = .ok (.ineg, 1) := by decide +kernel
theorem d_Md_size_6 : decode prog_14_method_4_code 6 = .ok (.goto 4, 3) := by decide +kernel
theorem d_Md_size_9 : decode prog_14_method_4_code 9 = .ok (.iload_n 0, 1) := by decide +kernel
theorem d_Md_size_10 : decode prog_14_method_4_code 10 = .ok (.ireturn, 1) := by decide +kernel
set_option maxRecDepth 100000 in
set_option maxHeartbeats 4000000 in
theorem c_Md_size {l0 : Launch} (hl : l0.stackTraces = false) (n : Nat) (ids : List Nat)  (a0 : Int32) (σ : Mm) : kw_C l0 y_Md_size (Cond.code y_Md_size prog_14_method_4_code 1 (some .int) :: kw_Ts) rm_Md_size kw_oi ids [] [.int a0] σ (F_Md_size n a0 σ) := by
  refine kw_start (L0 := [some (.int a0)]) hl (by decide +kernel) (Nat.le_of_ble_eq_true rfl) rfl (fun Γ ad C Ce => ?_)
  unfold F_Md_size
  refine kw_iload_n C d_Md_size_0 rfl ?_
  refine kw_j (α := Int32) (pcj := 10) (Lj := fun x2 => [none]) (stj := fun x2 => [.int x2]) (fun x2 σ3 => ?_) (fun k1 hk1 => ?_)
  · exact kw_iret C Ce rfl (by simp) (fun _ _ => rfl) (Nat.le_of_ble_eq_true rfl) (Nat.le_of_ble_eq_true rfl) rfl d_Md_size_10
  · refine kw_if_ge (tgt := 9) C d_Md_size_1 (by decide) ?_ ?_
    · refine kw_iload_n C d_Md_size_9 rfl ?_
      exact kw_wk (hk1 a0 σ) ⟨Or.inl rfl, trivial⟩
    · refine kw_iload_n C d_Md_size_4 rfl ?_
      refine kw_ineg C d_Md_size_5 ?_
      refine kw_goto (tgt := 10) C d_Md_size_6 (by decide) ?_
      exact kw_wk (hk1 (-a0) σ) ⟨Or.inl rfl, trivial⟩
/-! Md_thrown -/
def rm_Md_thrown : Room := { frames := 0, cells := 0, slots := 0, locals := 0 }
def F_Md_thrown (n : Nat) (t : Nat) (σ : Mm) : Option (Int32 × Mm) :=
some (gS σ (64 * t + 0), σ)
theorem d_Md_thrown_0 : decode prog_14_method_5_code 0 = .ok (.aload_n 0, 1) := by decide +kernel
theorem d_Md_thrown_1 : decode prog_14_method_5_code 1 = .ok (.getfield 67, 3) := by decide +kernel
theorem d_Md_thrown_4 : decode prog_14_method_5_code 4 = .ok (.ireturn, 1) := by decide +kernel
set_option maxRecDepth 100000 in
set_option maxHeartbeats 4000000 in
theorem c_Md_thrown {l0 : Launch} (hl : l0.stackTraces = false) (n : Nat) (ids : List Nat) {t : Nat} (ht : mm_ok ids t 1 12)  (σ : Mm) : kw_C l0 y_Md_thrown (Cond.code y_Md_thrown prog_14_method_5_code 1 (some .int) :: kw_Ts) rm_Md_thrown kw_oi ids [] [.ref t] σ (F_Md_thrown n t σ) := by
  refine kw_start (L0 := [some (.ref t)]) hl (by decide +kernel) (Nat.le_of_ble_eq_true rfl) rfl (fun Γ ad C Ce => ?_)
  unfold F_Md_thrown
  refine kw_aload_n C d_Md_thrown_0 rfl ?_
  refine kw_getI C fi_Md_67 (Or.inl rfl) ht d_Md_thrown_1 ?_
  exact kw_iret C Ce rfl (by simp) (fun _ _ => rfl) (Nat.le_of_ble_eq_true rfl) (Nat.le_of_ble_eq_true rfl) rfl d_Md_thrown_4
/-! Md_feed -/
def rm_Md_feed : Room := { frames := 0, cells := 0, slots := 0, locals := 0 }
def F_Md_feed (n : Nat) (t : Nat) (a0 : Int32) (a1 : Int32) (a2 : Int32) (a3 : Int32) (a4 : Int32) (σ : Mm) : Option (Int32 × Mm) :=
kf_j (α := Int32) (fun x2 σ3 =>
kf_let (pS σ3 (64 * t + 0) x2) fun σ4 =>
if (gS σ4 (64 * t + 0)) ≤ 0 then (
kf_l (α := Int32) n (fun k5 x6 σ7 =>
if 20 ≤ x6 then (
some (gS σ7 (64 * t + 2), σ7)) else (
kf_j (α := Int32) (fun x9 σ10 =>
Option.bind (gR σ10 (64 * t + 1)) fun o11 =>
kf_nz 4 <|
kf_in (gS σ10 (64 * t + 2)) (mm_kd o11).2.2 <| kf_let (pB σ10 o11 (gS σ10 (64 * t + 2)).toNatClampNeg (vp_nar .byte ((x9 >>> (((24 : Int32) - ((8 : Int32) * (x6 - x6 / 4 * 4))) &&& 31)).toInt8.toInt32))) fun σ12 =>
kf_let (pS σ12 (64 * t + 2) ((gS σ12 (64 * t + 2)) + 1)) fun σ13 =>
kf_let (x6 + Int32.ofInt 1) fun x14 =>
k5 x14 σ13) fun k8 =>
if 4 ≤ x6 then (
if 8 ≤ x6 then (
if 12 ≤ x6 then (
if 16 ≤ x6 then (
k8 a4 σ7) else (
k8 a3 σ7)) else (
k8 a2 σ7)) else (
k8 a1 σ7)) else (
k8 a0 σ7))) 0 σ4) else (
some (0, σ4))) fun k1 =>
if ((gS σ (64 * t + 2)) + 20) ≤ 65536 then (
k1 0 σ) else (
k1 1 σ)
theorem d_Md_feed_0 : decode prog_14_method_6_code 0 = .ok (.aload_n 0, 1) := by decide +kernel
theorem d_Md_feed_1 : decode prog_14_method_6_code 1 = .ok (.aload_n 0, 1) := by decide +kernel
theorem d_Md_feed_2 : decode prog_14_method_6_code 2 = .ok (.getfield 71, 3) := by decide +kernel
theorem d_Md_feed_5 : decode prog_14_method_6_code 5 = .ok (.bipush 20, 2) := by decide +kernel
theorem d_Md_feed_7 : decode prog_14_method_6_code 7 = .ok (.iadd, 1) := by decide +kernel
theorem d_Md_feed_8 : decode prog_14_method_6_code 8 = .ok (.ldc 7, 2) := by decide +kernel
theorem d_Md_feed_10 : decode prog_14_method_6_code 10 = .ok (.if_icmp .le 7, 3) := by decide +kernel
theorem d_Md_feed_13 : decode prog_14_method_6_code 13 = .ok (.iconst 1, 1) := by decide +kernel
theorem d_Md_feed_14 : decode prog_14_method_6_code 14 = .ok (.goto 4, 3) := by decide +kernel
theorem d_Md_feed_17 : decode prog_14_method_6_code 17 = .ok (.iconst 0, 1) := by decide +kernel
theorem d_Md_feed_18 : decode prog_14_method_6_code 18 = .ok (.putfield 67, 3) := by decide +kernel
theorem d_Md_feed_21 : decode prog_14_method_6_code 21 = .ok (.aload_n 0, 1) := by decide +kernel
theorem d_Md_feed_22 : decode prog_14_method_6_code 22 = .ok (.getfield 67, 3) := by decide +kernel
theorem d_Md_feed_25 : decode prog_14_method_6_code 25 = .ok (.ifCond .le 5, 3) := by decide +kernel
theorem d_Md_feed_28 : decode prog_14_method_6_code 28 = .ok (.iconst 0, 1) := by decide +kernel
theorem d_Md_feed_29 : decode prog_14_method_6_code 29 = .ok (.ireturn, 1) := by decide +kernel
theorem d_Md_feed_30 : decode prog_14_method_6_code 30 = .ok (.iconst 0, 1) := by decide +kernel
theorem d_Md_feed_31 : decode prog_14_method_6_code 31 = .ok (.istore 6, 2) := by decide +kernel
theorem d_Md_feed_33 : decode prog_14_method_6_code 33 = .ok (.iload 6, 2) := by decide +kernel
theorem d_Md_feed_35 : decode prog_14_method_6_code 35 = .ok (.bipush 20, 2) := by decide +kernel
theorem d_Md_feed_37 : decode prog_14_method_6_code 37 = .ok (.if_icmp .ge 90, 3) := by decide +kernel
theorem d_Md_feed_40 : decode prog_14_method_6_code 40 = .ok (.iload 6, 2) := by decide +kernel
theorem d_Md_feed_42 : decode prog_14_method_6_code 42 = .ok (.iconst 4, 1) := by decide +kernel
theorem d_Md_feed_43 : decode prog_14_method_6_code 43 = .ok (.if_icmp .ge 7, 3) := by decide +kernel
theorem d_Md_feed_46 : decode prog_14_method_6_code 46 = .ok (.iload_n 1, 1) := by decide +kernel
theorem d_Md_feed_47 : decode prog_14_method_6_code 47 = .ok (.goto 39, 3) := by decide +kernel
theorem d_Md_feed_50 : decode prog_14_method_6_code 50 = .ok (.iload 6, 2) := by decide +kernel
theorem d_Md_feed_52 : decode prog_14_method_6_code 52 = .ok (.bipush 8, 2) := by decide +kernel
theorem d_Md_feed_54 : decode prog_14_method_6_code 54 = .ok (.if_icmp .ge 7, 3) := by decide +kernel
theorem d_Md_feed_57 : decode prog_14_method_6_code 57 = .ok (.iload_n 2, 1) := by decide +kernel
theorem d_Md_feed_58 : decode prog_14_method_6_code 58 = .ok (.goto 28, 3) := by decide +kernel
theorem d_Md_feed_61 : decode prog_14_method_6_code 61 = .ok (.iload 6, 2) := by decide +kernel
theorem d_Md_feed_63 : decode prog_14_method_6_code 63 = .ok (.bipush 12, 2) := by decide +kernel
theorem d_Md_feed_65 : decode prog_14_method_6_code 65 = .ok (.if_icmp .ge 7, 3) := by decide +kernel
theorem d_Md_feed_68 : decode prog_14_method_6_code 68 = .ok (.iload_n 3, 1) := by decide +kernel
theorem d_Md_feed_69 : decode prog_14_method_6_code 69 = .ok (.goto 17, 3) := by decide +kernel
theorem d_Md_feed_72 : decode prog_14_method_6_code 72 = .ok (.iload 6, 2) := by decide +kernel
theorem d_Md_feed_74 : decode prog_14_method_6_code 74 = .ok (.bipush 16, 2) := by decide +kernel
theorem d_Md_feed_76 : decode prog_14_method_6_code 76 = .ok (.if_icmp .ge 8, 3) := by decide +kernel
theorem d_Md_feed_79 : decode prog_14_method_6_code 79 = .ok (.iload 4, 2) := by decide +kernel
theorem d_Md_feed_81 : decode prog_14_method_6_code 81 = .ok (.goto 5, 3) := by decide +kernel
theorem d_Md_feed_84 : decode prog_14_method_6_code 84 = .ok (.iload 5, 2) := by decide +kernel
theorem d_Md_feed_86 : decode prog_14_method_6_code 86 = .ok (.istore 7, 2) := by decide +kernel
theorem d_Md_feed_88 : decode prog_14_method_6_code 88 = .ok (.aload_n 0, 1) := by decide +kernel
theorem d_Md_feed_89 : decode prog_14_method_6_code 89 = .ok (.getfield 8, 3) := by decide +kernel
theorem d_Md_feed_92 : decode prog_14_method_6_code 92 = .ok (.aload_n 0, 1) := by decide +kernel
theorem d_Md_feed_93 : decode prog_14_method_6_code 93 = .ok (.getfield 71, 3) := by decide +kernel
theorem d_Md_feed_96 : decode prog_14_method_6_code 96 = .ok (.iload 7, 2) := by decide +kernel
theorem d_Md_feed_98 : decode prog_14_method_6_code 98 = .ok (.bipush 24, 2) := by decide +kernel
theorem d_Md_feed_100 : decode prog_14_method_6_code 100 = .ok (.bipush 8, 2) := by decide +kernel
theorem d_Md_feed_102 : decode prog_14_method_6_code 102 = .ok (.iload 6, 2) := by decide +kernel
theorem d_Md_feed_104 : decode prog_14_method_6_code 104 = .ok (.iconst 4, 1) := by decide +kernel
theorem d_Md_feed_105 : decode prog_14_method_6_code 105 = .ok (.irem, 1) := by decide +kernel
theorem d_Md_feed_106 : decode prog_14_method_6_code 106 = .ok (.imul, 1) := by decide +kernel
theorem d_Md_feed_107 : decode prog_14_method_6_code 107 = .ok (.isub, 1) := by decide +kernel
theorem d_Md_feed_108 : decode prog_14_method_6_code 108 = .ok (.ishr, 1) := by decide +kernel
theorem d_Md_feed_109 : decode prog_14_method_6_code 109 = .ok (.i2b, 1) := by decide +kernel
theorem d_Md_feed_110 : decode prog_14_method_6_code 110 = .ok (.bastore, 1) := by decide +kernel
theorem d_Md_feed_111 : decode prog_14_method_6_code 111 = .ok (.aload_n 0, 1) := by decide +kernel
theorem d_Md_feed_112 : decode prog_14_method_6_code 112 = .ok (.dup, 1) := by decide +kernel
theorem d_Md_feed_113 : decode prog_14_method_6_code 113 = .ok (.getfield 71, 3) := by decide +kernel
theorem d_Md_feed_116 : decode prog_14_method_6_code 116 = .ok (.iconst 1, 1) := by decide +kernel
theorem d_Md_feed_117 : decode prog_14_method_6_code 117 = .ok (.iadd, 1) := by decide +kernel
theorem d_Md_feed_118 : decode prog_14_method_6_code 118 = .ok (.putfield 71, 3) := by decide +kernel
theorem d_Md_feed_121 : decode prog_14_method_6_code 121 = .ok (.iinc 6 1, 3) := by decide +kernel
theorem d_Md_feed_124 : decode prog_14_method_6_code 124 = .ok (.goto (-91), 3) := by decide +kernel
theorem d_Md_feed_127 : decode prog_14_method_6_code 127 = .ok (.aload_n 0, 1) := by decide +kernel
theorem d_Md_feed_128 : decode prog_14_method_6_code 128 = .ok (.getfield 71, 3) := by decide +kernel
theorem d_Md_feed_131 : decode prog_14_method_6_code 131 = .ok (.ireturn, 1) := by decide +kernel
set_option maxRecDepth 100000 in
set_option maxHeartbeats 4000000 in
theorem c_Md_feed {l0 : Launch} (hl : l0.stackTraces = false) (n : Nat) (ids : List Nat) {t : Nat} (ht : mm_ok ids t 1 12) (a0 : Int32) (a1 : Int32) (a2 : Int32) (a3 : Int32) (a4 : Int32) (σ : Mm) : kw_C l0 y_Md_feed (Cond.code y_Md_feed prog_14_method_6_code 8 (some .int) :: kw_Ts) rm_Md_feed kw_oi ids [] [.ref t, .int a0, .int a1, .int a2, .int a3, .int a4] σ (F_Md_feed n t a0 a1 a2 a3 a4 σ) := by
  refine kw_start (L0 := [some (.ref t), some (.int a0), some (.int a1), some (.int a2), some (.int a3), some (.int a4), none, none]) hl (by decide +kernel) (Nat.le_of_ble_eq_true rfl) rfl (fun Γ ad C Ce => ?_)
  unfold F_Md_feed
  refine kw_aload_n C d_Md_feed_0 rfl ?_
  refine kw_aload_n C d_Md_feed_1 rfl ?_
  refine kw_getI C fi_Md_71 (Or.inl rfl) ht d_Md_feed_2 ?_
  refine kw_bipush (v := 20) C d_Md_feed_5 (by decide) ?_
  refine kw_iadd C d_Md_feed_7 ?_
  refine kw_ldc (v := 65536) C d_Md_feed_8 k_Md_7 ?_
  refine kw_j (α := Int32) (pcj := 18) (Lj := fun x2 => [some (.ref t), some (.int a0), some (.int a1), some (.int a2), some (.int a3), some (.int a4), none, none]) (stj := fun x2 => [.int x2, .ref t]) (fun x2 σ3 => ?_) (fun k1 hk1 => ?_)
  · refine kw_putI C fi_Md_67 rfl ht d_Md_feed_18 (fun σ4 => ?_)
    refine kw_aload_n C d_Md_feed_21 rfl ?_
    refine kw_getI C fi_Md_67 (Or.inl rfl) ht d_Md_feed_22 ?_
    refine kw_if_le (tgt := 30) C d_Md_feed_25 (by decide) ?_ ?_
    · refine kw_iconst (v := 0) C d_Md_feed_30 (by decide) ?_
      refine kw_istore (L' := [some (.ref t), some (.int a0), some (.int a1), some (.int a2), some (.int a3), some (.int a4), some (.int 0), none]) C d_Md_feed_31 (by decide) rfl ?_
      refine kw_wk (kw_l (α := Int32) (pc := 33) (Lj := fun x6 => [some (.ref t), some (.int a0), some (.int a1), some (.int a2), some (.int a3), some (.int a4), some (.int x6), none]) (stj := fun x6 => []) (fun k5 hk5 x6 σ7 => ?_) n 0 σ4) ⟨Or.inr rfl, Or.inr rfl, Or.inr rfl, Or.inr rfl, Or.inr rfl, Or.inr rfl, Or.inr rfl, Or.inl rfl, trivial⟩
      refine kw_iload C d_Md_feed_33 rfl ?_
      refine kw_bipush (v := 20) C d_Md_feed_35 (by decide) ?_
      refine kw_icmp_ge (tgt := 127) C d_Md_feed_37 (by decide) ?_ ?_
      · refine kw_aload_n C d_Md_feed_127 rfl ?_
        refine kw_getI C fi_Md_71 (Or.inl rfl) ht d_Md_feed_128 ?_
        exact kw_iret C Ce rfl (by simp) (fun _ _ => rfl) (Nat.le_of_ble_eq_true rfl) (Nat.le_of_ble_eq_true rfl) rfl d_Md_feed_131
      · refine kw_iload C d_Md_feed_40 rfl ?_
        refine kw_iconst (v := 4) C d_Md_feed_42 (by decide) ?_
        refine kw_j (α := Int32) (pcj := 86) (Lj := fun x9 => [some (.ref t), some (.int a0), some (.int a1), some (.int a2), some (.int a3), some (.int a4), some (.int x6), none]) (stj := fun x9 => [.int x9]) (fun x9 σ10 => ?_) (fun k8 hk8 => ?_)
        · refine kw_istore (L' := [some (.ref t), some (.int a0), some (.int a1), some (.int a2), some (.int a3), some (.int a4), some (.int x6), some (.int x9)]) C d_Md_feed_86 (by decide) rfl ?_
          refine kw_aload_n C d_Md_feed_88 rfl ?_
          refine kw_getR C fi_Md_8 rfl rfl ht d_Md_feed_89 (fun o11 ho11 => ?_)
          refine kw_aload_n C d_Md_feed_92 rfl ?_
          refine kw_getI C fi_Md_71 (Or.inl rfl) ht d_Md_feed_93 ?_
          refine kw_iload C d_Md_feed_96 rfl ?_
          refine kw_bipush (v := 24) C d_Md_feed_98 (by decide) ?_
          refine kw_bipush (v := 8) C d_Md_feed_100 (by decide) ?_
          refine kw_iload C d_Md_feed_102 rfl ?_
          refine kw_iconst (v := 4) C d_Md_feed_104 (by decide) ?_
          refine kw_irem C d_Md_feed_105 ?_
          refine kw_imul C d_Md_feed_106 ?_
          refine kw_isub C d_Md_feed_107 ?_
          refine kw_ishr C d_Md_feed_108 ?_
          refine kw_i2b C d_Md_feed_109 ?_
          refine kw_bast C ho11 d_Md_feed_110 (fun σ12 => ?_)
          refine kw_aload_n C d_Md_feed_111 rfl ?_
          refine kw_dup C d_Md_feed_112 rfl ?_
          refine kw_getI C fi_Md_71 (Or.inl rfl) ht d_Md_feed_113 ?_
          refine kw_iconst (v := 1) C d_Md_feed_116 (by decide) ?_
          refine kw_iadd C d_Md_feed_117 ?_
          refine kw_putI C fi_Md_71 rfl ht d_Md_feed_118 (fun σ13 => ?_)
          refine kw_iincL (L2 := fun x14 => [some (.ref t), some (.int a0), some (.int a1), some (.int a2), some (.int a3), some (.int a4), some (.int x14), some (.int x9)]) C d_Md_feed_121 (by decide) rfl (fun _ => rfl) (fun x14 => ?_)
          refine kw_goto (tgt := 33) C d_Md_feed_124 (by decide) ?_
          exact kw_wk (hk5 x14 σ13) ⟨Or.inr rfl, Or.inr rfl, Or.inr rfl, Or.inr rfl, Or.inr rfl, Or.inr rfl, Or.inr rfl, Or.inl rfl, trivial⟩
        · refine kw_icmp_ge (tgt := 50) C d_Md_feed_43 (by decide) ?_ ?_
          · refine kw_iload C d_Md_feed_50 rfl ?_
            refine kw_bipush (v := 8) C d_Md_feed_52 (by decide) ?_
            refine kw_icmp_ge (tgt := 61) C d_Md_feed_54 (by decide) ?_ ?_
            · refine kw_iload C d_Md_feed_61 rfl ?_
              refine kw_bipush (v := 12) C d_Md_feed_63 (by decide) ?_
              refine kw_icmp_ge (tgt := 72) C d_Md_feed_65 (by decide) ?_ ?_
              · refine kw_iload C d_Md_feed_72 rfl ?_
                refine kw_bipush (v := 16) C d_Md_feed_74 (by decide) ?_
                refine kw_icmp_ge (tgt := 84) C d_Md_feed_76 (by decide) ?_ ?_
                · refine kw_iload C d_Md_feed_84 rfl ?_
                  exact kw_wk (hk8 a4 σ7) ⟨Or.inr rfl, Or.inr rfl, Or.inr rfl, Or.inr rfl, Or.inr rfl, Or.inr rfl, Or.inr rfl, Or.inl rfl, trivial⟩
                · refine kw_iload C d_Md_feed_79 rfl ?_
                  refine kw_goto (tgt := 86) C d_Md_feed_81 (by decide) ?_
                  exact kw_wk (hk8 a3 σ7) ⟨Or.inr rfl, Or.inr rfl, Or.inr rfl, Or.inr rfl, Or.inr rfl, Or.inr rfl, Or.inr rfl, Or.inl rfl, trivial⟩
              · refine kw_iload_n C d_Md_feed_68 rfl ?_
                refine kw_goto (tgt := 86) C d_Md_feed_69 (by decide) ?_
                exact kw_wk (hk8 a2 σ7) ⟨Or.inr rfl, Or.inr rfl, Or.inr rfl, Or.inr rfl, Or.inr rfl, Or.inr rfl, Or.inr rfl, Or.inl rfl, trivial⟩
            · refine kw_iload_n C d_Md_feed_57 rfl ?_
              refine kw_goto (tgt := 86) C d_Md_feed_58 (by decide) ?_
              exact kw_wk (hk8 a1 σ7) ⟨Or.inr rfl, Or.inr rfl, Or.inr rfl, Or.inr rfl, Or.inr rfl, Or.inr rfl, Or.inr rfl, Or.inl rfl, trivial⟩
          · refine kw_iload_n C d_Md_feed_46 rfl ?_
            refine kw_goto (tgt := 86) C d_Md_feed_47 (by decide) ?_
            exact kw_wk (hk8 a0 σ7) ⟨Or.inr rfl, Or.inr rfl, Or.inr rfl, Or.inr rfl, Or.inr rfl, Or.inr rfl, Or.inr rfl, Or.inl rfl, trivial⟩
    · refine kw_iconst (v := 0) C d_Md_feed_28 (by decide) ?_
      exact kw_iret C Ce rfl (by simp) (fun _ _ => rfl) (Nat.le_of_ble_eq_true rfl) (Nat.le_of_ble_eq_true rfl) rfl d_Md_feed_29
  · refine kw_icmp_le (tgt := 17) C d_Md_feed_10 (by decide) ?_ ?_
    · refine kw_iconst (v := 0) C d_Md_feed_17 (by decide) ?_
      exact kw_wk (hk1 0 σ) ⟨Or.inr rfl, Or.inr rfl, Or.inr rfl, Or.inr rfl, Or.inr rfl, Or.inr rfl, Or.inl rfl, Or.inl rfl, trivial⟩
    · refine kw_iconst (v := 1) C d_Md_feed_13 (by decide) ?_
      refine kw_goto (tgt := 18) C d_Md_feed_14 (by decide) ?_
      exact kw_wk (hk1 1 σ) ⟨Or.inr rfl, Or.inr rfl, Or.inr rfl, Or.inr rfl, Or.inr rfl, Or.inr rfl, Or.inl rfl, Or.inl rfl, trivial⟩
/-! Md_end -/
def rm_Md_end : Room := { frames := 0, cells := 0, slots := 0, locals := 0 }
def F_Md_end (n : Nat) (t : Nat) (a0 : Int32) (σ : Mm) : Option (Mm) :=
kf_j (α := Int32) (fun x2 σ3 =>
kf_let (pS σ3 (64 * t + 0) x2) fun σ4 =>
kf_j (α := Int32) (fun x6 σ7 =>
kf_let (pS σ7 (64 * t + 2) x6) fun σ8 =>
some σ8) fun k5 =>
if (gS σ4 (64 * t + 0)) = 0 then (
k5 a0 σ4) else (
k5 (gS σ4 (64 * t + 2)) σ4)) fun k1 =>
kf_j (α := Unit) (fun x10 σ11 =>
k1 1 σ11) fun k9 =>
if a0 < 0 then (
k9 () σ) else (
if a0 ≤ (gS σ (64 * t + 2)) then (
k1 0 σ) else (
k9 () σ))
theorem d_Md_end_0 : decode prog_14_method_7_code 0 = .ok (.aload_n 0, 1) := by decide +kernel
theorem d_Md_end_1 : decode prog_14_method_7_code 1 = .ok (.iload_n 1, 1) := by decide +kernel
theorem d_Md_end_2 : decode prog_14_method_7_code 2 = .ok (.ifCond .lt 11, 3) := by decide +kernel
theorem d_Md_end_5 : decode prog_14_method_7_code 5 = .ok (.iload_n 1, 1) := by decide +kernel
theorem d_Md_end_6 : decode prog_14_method_7_code 6 = .ok (.aload_n 0, 1) := by decide +kernel
theorem d_Md_end_7 : decode prog_14_method_7_code 7 = .ok (.getfield 71, 3) := by decide +kernel
theorem d_Md_end_10 : decode prog_14_method_7_code 10 = .ok (.if_icmp .le 7, 3) := by decide +kernel
theorem d_Md_end_13 : decode prog_14_method_7_code 13 = .ok (.iconst 1, 1) := by decide +kernel
theorem d_Md_end_14 : decode prog_14_method_7_code 14 = .ok (.goto 4, 3) := by decide +kernel
theorem d_Md_end_17 : decode prog_14_method_7_code 17 = .ok (.iconst 0, 1) := by decide +kernel
theorem d_Md_end_18 : decode prog_14_method_7_code 18 = .ok (.putfield 67, 3) := by decide +kernel
theorem d_Md_end_21 : decode prog_14_method_7_code 21 = .ok (.aload_n 0, 1) := by decide +kernel
theorem d_Md_end_22 : decode prog_14_method_7_code 22 = .ok (.aload_n 0, 1) := by decide +kernel
theorem d_Md_end_23 : decode prog_14_method_7_code 23 = .ok (.getfield 67, 3) := by decide +kernel
theorem d_Md_end_26 : decode prog_14_method_7_code 26 = .ok (.ifCond .ne 7, 3) := by decide +kernel
theorem d_Md_end_29 : decode prog_14_method_7_code 29 = .ok (.iload_n 1, 1) := by decide +kernel
theorem d_Md_end_30 : decode prog_14_method_7_code 30 = .ok (.goto 7, 3) := by decide +kernel
theorem d_Md_end_33 : decode prog_14_method_7_code 33 = .ok (.aload_n 0, 1) := by decide +kernel
theorem d_Md_end_34 : decode prog_14_method_7_code 34 = .ok (.getfield 71, 3) := by decide +kernel
theorem d_Md_end_37 : decode prog_14_method_7_code 37 = .ok (.putfield 71, 3) := by decide +kernel
theorem d_Md_end_40 : decode prog_14_method_7_code 40 = .ok (.return_, 1) := by decide +kernel
set_option maxRecDepth 100000 in
set_option maxHeartbeats 4000000 in
theorem c_Md_end {l0 : Launch} (hl : l0.stackTraces = false) (n : Nat) (ids : List Nat) {t : Nat} (ht : mm_ok ids t 1 12) (a0 : Int32) (σ : Mm) : kw_C l0 y_Md_end (Cond.code y_Md_end prog_14_method_7_code 2 none :: kw_Ts) rm_Md_end kw_ov ids [] [.ref t, .int a0] σ (F_Md_end n t a0 σ) := by
  refine kw_start (L0 := [some (.ref t), some (.int a0)]) hl (by decide +kernel) (Nat.le_of_ble_eq_true rfl) rfl (fun Γ ad C Ce => ?_)
  unfold F_Md_end
  refine kw_aload_n C d_Md_end_0 rfl ?_
  refine kw_iload_n C d_Md_end_1 rfl ?_
  refine kw_j (α := Int32) (pcj := 18) (Lj := fun x2 => [some (.ref t), some (.int a0)]) (stj := fun x2 => [.int x2, .ref t]) (fun x2 σ3 => ?_) (fun k1 hk1 => ?_)
  · refine kw_putI C fi_Md_67 rfl ht d_Md_end_18 (fun σ4 => ?_)
    refine kw_aload_n C d_Md_end_21 rfl ?_
    refine kw_aload_n C d_Md_end_22 rfl ?_
    refine kw_getI C fi_Md_67 (Or.inl rfl) ht d_Md_end_23 ?_
    refine kw_j (α := Int32) (pcj := 37) (Lj := fun x6 => [none, none]) (stj := fun x6 => [.int x6, .ref t]) (fun x6 σ7 => ?_) (fun k5 hk5 => ?_)
    · refine kw_putI C fi_Md_71 rfl ht d_Md_end_37 (fun σ8 => ?_)
      exact kw_vret C Ce rfl (by simp) (fun _ _ => rfl) (Nat.le_of_ble_eq_true rfl) (Nat.le_of_ble_eq_true rfl) rfl d_Md_end_40
    · refine kw_if_ne (tgt := 33) C d_Md_end_26 (by decide) ?_ ?_
      · refine kw_aload_n C d_Md_end_33 rfl ?_
        refine kw_getI C fi_Md_71 (Or.inl rfl) ht d_Md_end_34 ?_
        exact kw_wk (hk5 (gS σ4 (64 * t + 2)) σ4) ⟨Or.inl rfl, Or.inl rfl, trivial⟩
      · refine kw_iload_n C d_Md_end_29 rfl ?_
        refine kw_goto (tgt := 37) C d_Md_end_30 (by decide) ?_
        exact kw_wk (hk5 a0 σ4) ⟨Or.inl rfl, Or.inl rfl, trivial⟩
  · refine kw_j (α := Unit) (pcj := 13) (Lj := fun x10 => [some (.ref t), some (.int a0)]) (stj := fun x10 => [.ref t]) (fun x10 σ11 => ?_) (fun k9 hk9 => ?_)
    · refine kw_iconst (v := 1) C d_Md_end_13 (by decide) ?_
      refine kw_goto (tgt := 18) C d_Md_end_14 (by decide) ?_
      exact kw_wk (hk1 1 σ11) ⟨Or.inr rfl, Or.inr rfl, trivial⟩
    · refine kw_if_lt (tgt := 13) C d_Md_end_2 (by decide) ?_ ?_
      · exact kw_wk (hk9 () σ) ⟨Or.inr rfl, Or.inr rfl, trivial⟩
      · refine kw_iload_n C d_Md_end_5 rfl ?_
        refine kw_aload_n C d_Md_end_6 rfl ?_
        refine kw_getI C fi_Md_71 (Or.inl rfl) ht d_Md_end_7 ?_
        refine kw_icmp_le (tgt := 17) C d_Md_end_10 (by decide) ?_ ?_
        · refine kw_iconst (v := 0) C d_Md_end_17 (by decide) ?_
          exact kw_wk (hk1 0 σ) ⟨Or.inr rfl, Or.inr rfl, trivial⟩
        · exact kw_wk (hk9 () σ) ⟨Or.inr rfl, Or.inr rfl, trivial⟩
/-! Md_byteAt -/
def rm_Md_byteAt : Room := { frames := 0, cells := 0, slots := 0, locals := 0 }
def F_Md_byteAt (n : Nat) (t : Nat) (a0 : Int32) (σ : Mm) : Option (Int32 × Mm) :=
kf_j (α := Int32) (fun x2 σ3 =>
kf_let (pS σ3 (64 * t + 0) x2) fun σ4 =>
kf_j (α := Int32) (fun x6 σ7 =>
some (x6, σ7)) fun k5 =>
if (gS σ4 (64 * t + 0)) ≤ 0 then (
Option.bind (gR σ4 (64 * t + 1)) fun o8 =>
kf_in a0 (mm_kd o8).2.2 <|
k5 ((gB σ4 o8 a0.toNatClampNeg) &&& 255) σ4) else (
k5 0 σ4)) fun k1 =>
kf_j (α := Unit) (fun x10 σ11 =>
k1 1 σ11) fun k9 =>
if a0 < 0 then (
k9 () σ) else (
if a0 < (gS σ (64 * t + 2)) then (
k1 0 σ) else (
k9 () σ))
theorem d_Md_byteAt_0 : decode prog_14_method_8_code 0 = .ok (.aload_n 0, 1) := by decide +kernel
theorem d_Md_byteAt_1 : decode prog_14_method_8_code 1 = .ok (.iload_n 1, 1) := by decide +kernel
theorem d_Md_byteAt_2 : decode prog_14_method_8_code 2 = .ok (.ifCond .lt 11, 3) := by decide +kernel
theorem d_Md_byteAt_5 : decode prog_14_method_8_code 5 = .ok (.iload_n 1, 1) := by decide +kernel
theorem d_Md_byteAt_6 : decode prog_14_method_8_code 6 = .ok (.aload_n 0, 1) := by decide +kernel
theorem d_Md_byteAt_7 : decode prog_14_method_8_code 7 = .ok (.getfield 71, 3) := by decide +kernel
theorem d_Md_byteAt_10 : decode prog_14_method_8_code 10 = .ok (.if_icmp .lt 7, 3) := by decide +kernel
theorem d_Md_byteAt_13 : decode prog_14_method_8_code 13 = .ok (.iconst 1, 1) := by decide +kernel
theorem d_Md_byteAt_14 : decode prog_14_method_8_code 14 = .ok (.goto 4, 3) := by decide +kernel
theorem d_Md_byteAt_17 : decode prog_14_method_8_code 17 = .ok (.iconst 0, 1) := by decide +kernel
theorem d_Md_byteAt_18 : decode prog_14_method_8_code 18 = .ok (.putfield 67, 3) := by decide +kernel
theorem d_Md_byteAt_21 : decode prog_14_method_8_code 21 = .ok (.aload_n 0, 1) := by decide +kernel
theorem d_Md_byteAt_22 : decode prog_14_method_8_code 22 = .ok (.getfield 67, 3) := by decide +kernel
theorem d_Md_byteAt_25 : decode prog_14_method_8_code 25 = .ok (.ifCond .le 7, 3) := by decide +kernel
theorem d_Md_byteAt_28 : decode prog_14_method_8_code 28 = .ok (.iconst 0, 1) := by decide +kernel
theorem d_Md_byteAt_29 : decode prog_14_method_8_code 29 = .ok (.goto 13, 3) := by decide +kernel
theorem d_Md_byteAt_32 : decode prog_14_method_8_code 32 = .ok (.aload_n 0, 1) := by decide +kernel
theorem d_Md_byteAt_33 : decode prog_14_method_8_code 33 = .ok (.getfield 8, 3) := by decide +kernel
theorem d_Md_byteAt_36 : decode prog_14_method_8_code 36 = .ok (.iload_n 1, 1) := by decide +kernel
theorem d_Md_byteAt_37 : decode prog_14_method_8_code 37 = .ok (.baload, 1) := by decide +kernel
theorem d_Md_byteAt_38 : decode prog_14_method_8_code 38 = .ok (.sipush 255, 3) := by decide +kernel
theorem d_Md_byteAt_41 : decode prog_14_method_8_code 41 = .ok (.iand, 1) := by decide +kernel
theorem d_Md_byteAt_42 : decode prog_14_method_8_code 42 = .ok (.ireturn, 1) := by decide +kernel
set_option maxRecDepth 100000 in
set_option maxHeartbeats 4000000 in
theorem c_Md_byteAt {l0 : Launch} (hl : l0.stackTraces = false) (n : Nat) (ids : List Nat) {t : Nat} (ht : mm_ok ids t 1 12) (a0 : Int32) (σ : Mm) : kw_C l0 y_Md_byteAt (Cond.code y_Md_byteAt prog_14_method_8_code 2 (some .int) :: kw_Ts) rm_Md_byteAt kw_oi ids [] [.ref t, .int a0] σ (F_Md_byteAt n t a0 σ) := by
  refine kw_start (L0 := [some (.ref t), some (.int a0)]) hl (by decide +kernel) (Nat.le_of_ble_eq_true rfl) rfl (fun Γ ad C Ce => ?_)
  unfold F_Md_byteAt
  refine kw_aload_n C d_Md_byteAt_0 rfl ?_
  refine kw_iload_n C d_Md_byteAt_1 rfl ?_
  refine kw_j (α := Int32) (pcj := 18) (Lj := fun x2 => [some (.ref t), some (.int a0)]) (stj := fun x2 => [.int x2, .ref t]) (fun x2 σ3 => ?_) (fun k1 hk1 => ?_)
  · refine kw_putI C fi_Md_67 rfl ht d_Md_byteAt_18 (fun σ4 => ?_)
    refine kw_aload_n C d_Md_byteAt_21 rfl ?_
    refine kw_getI C fi_Md_67 (Or.inl rfl) ht d_Md_byteAt_22 ?_
    refine kw_j (α := Int32) (pcj := 42) (Lj := fun x6 => [none, none]) (stj := fun x6 => [.int x6]) (fun x6 σ7 => ?_) (fun k5 hk5 => ?_)
    · exact kw_iret C Ce rfl (by simp) (fun _ _ => rfl) (Nat.le_of_ble_eq_true rfl) (Nat.le_of_ble_eq_true rfl) rfl d_Md_byteAt_42
    · refine kw_if_le (tgt := 32) C d_Md_byteAt_25 (by decide) ?_ ?_
      · refine kw_aload_n C d_Md_byteAt_32 rfl ?_
        refine kw_getR C fi_Md_8 rfl rfl ht d_Md_byteAt_33 (fun o8 ho8 => ?_)
        refine kw_iload_n C d_Md_byteAt_36 rfl ?_
        refine kw_bald C ho8 d_Md_byteAt_37 ?_
        refine kw_sipush (v := 255) C d_Md_byteAt_38 (by decide) ?_
        refine kw_iand C d_Md_byteAt_41 ?_
        exact kw_wk (hk5 ((gB σ4 o8 a0.toNatClampNeg) &&& 255) σ4) ⟨Or.inl rfl, Or.inl rfl, trivial⟩
      · refine kw_iconst (v := 0) C d_Md_byteAt_28 (by decide) ?_
        refine kw_goto (tgt := 42) C d_Md_byteAt_29 (by decide) ?_
        exact kw_wk (hk5 0 σ4) ⟨Or.inl rfl, Or.inl rfl, trivial⟩
  · refine kw_j (α := Unit) (pcj := 13) (Lj := fun x10 => [some (.ref t), some (.int a0)]) (stj := fun x10 => [.ref t]) (fun x10 σ11 => ?_) (fun k9 hk9 => ?_)
    · refine kw_iconst (v := 1) C d_Md_byteAt_13 (by decide) ?_
      refine kw_goto (tgt := 18) C d_Md_byteAt_14 (by decide) ?_
      exact kw_wk (hk1 1 σ11) ⟨Or.inr rfl, Or.inr rfl, trivial⟩
    · refine kw_if_lt (tgt := 13) C d_Md_byteAt_2 (by decide) ?_ ?_
      · exact kw_wk (hk9 () σ) ⟨Or.inr rfl, Or.inr rfl, trivial⟩
      · refine kw_iload_n C d_Md_byteAt_5 rfl ?_
        refine kw_aload_n C d_Md_byteAt_6 rfl ?_
        refine kw_getI C fi_Md_71 (Or.inl rfl) ht d_Md_byteAt_7 ?_
        refine kw_icmp_lt (tgt := 17) C d_Md_byteAt_10 (by decide) ?_ ?_
        · refine kw_iconst (v := 0) C d_Md_byteAt_17 (by decide) ?_
          exact kw_wk (hk1 0 σ) ⟨Or.inr rfl, Or.inr rfl, trivial⟩
        · exact kw_wk (hk9 () σ) ⟨Or.inr rfl, Or.inr rfl, trivial⟩
/-! Md_spoil -/
def rm_Md_spoil : Room := { frames := 0, cells := 0, slots := 0, locals := 0 }
def F_Md_spoil (n : Nat) (t : Nat) (a0 : Int32) (a1 : Int32) (σ : Mm) : Option (Mm) :=
kf_j (α := Int32) (fun x2 σ3 =>
kf_let (pS σ3 (64 * t + 0) x2) fun σ4 =>
kf_j (α := Unit) (fun x6 σ7 =>
some σ7) fun k5 =>
if (gS σ4 (64 * t + 0)) = 0 then (
Option.bind (gR σ4 (64 * t + 1)) fun o8 =>
kf_in a0 (mm_kd o8).2.2 <| kf_let (pB σ4 o8 a0.toNatClampNeg (vp_nar .byte a1.toInt8.toInt32)) fun σ9 =>
k5 () σ9) else (
k5 () σ4)) fun k1 =>
kf_j (α := Unit) (fun x11 σ12 =>
k1 1 σ12) fun k10 =>
if a0 < 0 then (
k10 () σ) else (
if a0 < (gS σ (64 * t + 2)) then (
k1 0 σ) else (
k10 () σ))
theorem d_Md_spoil_0 : decode prog_14_method_9_code 0 = .ok (.aload_n 0, 1) := by decide +kernel
theorem d_Md_spoil_1 : decode prog_14_method_9_code 1 = .ok (.iload_n 1, 1) := by decide +kernel
theorem d_Md_spoil_2 : decode prog_14_method_9_code 2 = .ok (.ifCond .lt 11, 3) := by decide +kernel
theorem d_Md_spoil_5 : decode prog_14_method_9_code 5 = .ok (.iload_n 1, 1) := by decide +kernel
theorem d_Md_spoil_6 : decode prog_14_method_9_code 6 = .ok (.aload_n 0, 1) := by decide +kernel
theorem d_Md_spoil_7 : decode prog_14_method_9_code 7 = .ok (.getfield 71, 3) := by decide +kernel
theorem d_Md_spoil_10 : decode prog_14_method_9_code 10 = .ok (.if_icmp .lt 7, 3) := by decide +kernel
theorem d_Md_spoil_13 : decode prog_14_method_9_code 13 = .ok (.iconst 1, 1) := by decide +kernel
theorem d_Md_spoil_14 : decode prog_14_method_9_code 14 = .ok (.goto 4, 3) := by decide +kernel
theorem d_Md_spoil_17 : decode prog_14_method_9_code 17 = .ok (.iconst 0, 1) := by decide +kernel
theorem d_Md_spoil_18 : decode prog_14_method_9_code 18 = .ok (.putfield 67, 3) := by decide +kernel
theorem d_Md_spoil_21 : decode prog_14_method_9_code 21 = .ok (.aload_n 0, 1) := by decide +kernel
theorem d_Md_spoil_22 : decode prog_14_method_9_code 22 = .ok (.getfield 67, 3) := by decide +kernel
theorem d_Md_spoil_25 : decode prog_14_method_9_code 25 = .ok (.ifCond .ne 11, 3) := by decide +kernel
theorem d_Md_spoil_28 : decode prog_14_method_9_code 28 = .ok (.aload_n 0, 1) := by decide +kernel
theorem d_Md_spoil_29 : decode prog_14_method_9_code 29 = .ok (.getfield 8, 3) := by decide +kernel
theorem d_Md_spoil_32 : decode prog_14_method_9_code 32 = .ok (.iload_n 1, 1) := by decide +kernel
theorem d_Md_spoil_33 : decode prog_14_method_9_code 33 = .ok (.iload_n 2, 1) := by decide +kernel
theorem d_Md_spoil_34 : decode prog_14_method_9_code 34 = .ok (.i2b, 1) := by decide +kernel
theorem d_Md_spoil_35 : decode prog_14_method_9_code 35 = .ok (.bastore, 1) := by decide +kernel
theorem d_Md_spoil_36 : decode prog_14_method_9_code 36 = .ok (.return_, 1) := by decide +kernel
set_option maxRecDepth 100000 in
set_option maxHeartbeats 4000000 in
theorem c_Md_spoil {l0 : Launch} (hl : l0.stackTraces = false) (n : Nat) (ids : List Nat) {t : Nat} (ht : mm_ok ids t 1 12) (a0 : Int32) (a1 : Int32) (σ : Mm) : kw_C l0 y_Md_spoil (Cond.code y_Md_spoil prog_14_method_9_code 3 none :: kw_Ts) rm_Md_spoil kw_ov ids [] [.ref t, .int a0, .int a1] σ (F_Md_spoil n t a0 a1 σ) := by
  refine kw_start (L0 := [some (.ref t), some (.int a0), some (.int a1)]) hl (by decide +kernel) (Nat.le_of_ble_eq_true rfl) rfl (fun Γ ad C Ce => ?_)
  unfold F_Md_spoil
  refine kw_aload_n C d_Md_spoil_0 rfl ?_
  refine kw_iload_n C d_Md_spoil_1 rfl ?_
  refine kw_j (α := Int32) (pcj := 18) (Lj := fun x2 => [some (.ref t), some (.int a0), some (.int a1)]) (stj := fun x2 => [.int x2, .ref t]) (fun x2 σ3 => ?_) (fun k1 hk1 => ?_)
  · refine kw_putI C fi_Md_67 rfl ht d_Md_spoil_18 (fun σ4 => ?_)
    refine kw_aload_n C d_Md_spoil_21 rfl ?_
    refine kw_getI C fi_Md_67 (Or.inl rfl) ht d_Md_spoil_22 ?_
    refine kw_j (α := Unit) (pcj := 36) (Lj := fun x6 => [none, none, none]) (stj := fun x6 => []) (fun x6 σ7 => ?_) (fun k5 hk5 => ?_)
    · exact kw_vret C Ce rfl (by simp) (fun _ _ => rfl) (Nat.le_of_ble_eq_true rfl) (Nat.le_of_ble_eq_true rfl) rfl d_Md_spoil_36
    · refine kw_if_ne (tgt := 36) C d_Md_spoil_25 (by decide) ?_ ?_
      · exact kw_wk (hk5 () σ4) ⟨Or.inl rfl, Or.inl rfl, Or.inl rfl, trivial⟩
      · refine kw_aload_n C d_Md_spoil_28 rfl ?_
        refine kw_getR C fi_Md_8 rfl rfl ht d_Md_spoil_29 (fun o8 ho8 => ?_)
        refine kw_iload_n C d_Md_spoil_32 rfl ?_
        refine kw_iload_n C d_Md_spoil_33 rfl ?_
        refine kw_i2b C d_Md_spoil_34 ?_
        refine kw_bast C ho8 d_Md_spoil_35 (fun σ9 => ?_)
        exact kw_wk (hk5 () σ9) ⟨Or.inl rfl, Or.inl rfl, Or.inl rfl, trivial⟩
  · refine kw_j (α := Unit) (pcj := 13) (Lj := fun x11 => [some (.ref t), some (.int a0), some (.int a1)]) (stj := fun x11 => [.ref t]) (fun x11 σ12 => ?_) (fun k10 hk10 => ?_)
    · refine kw_iconst (v := 1) C d_Md_spoil_13 (by decide) ?_
      refine kw_goto (tgt := 18) C d_Md_spoil_14 (by decide) ?_
      exact kw_wk (hk1 1 σ12) ⟨Or.inr rfl, Or.inr rfl, Or.inr rfl, trivial⟩
    · refine kw_if_lt (tgt := 13) C d_Md_spoil_2 (by decide) ?_ ?_
      · exact kw_wk (hk10 () σ) ⟨Or.inr rfl, Or.inr rfl, Or.inr rfl, trivial⟩
      · refine kw_iload_n C d_Md_spoil_5 rfl ?_
        refine kw_aload_n C d_Md_spoil_6 rfl ?_
        refine kw_getI C fi_Md_71 (Or.inl rfl) ht d_Md_spoil_7 ?_
        refine kw_icmp_lt (tgt := 17) C d_Md_spoil_10 (by decide) ?_ ?_
        · refine kw_iconst (v := 0) C d_Md_spoil_17 (by decide) ?_
          exact kw_wk (hk1 0 σ) ⟨Or.inr rfl, Or.inr rfl, Or.inr rfl, trivial⟩
        · exact kw_wk (hk10 () σ) ⟨Or.inr rfl, Or.inr rfl, Or.inr rfl, trivial⟩
/-! Md_at -/
def rm_Md_at : Room := { frames := 0, cells := 0, slots := 0, locals := 0 }
def F_Md_at (n : Nat) (t : Nat) (a0 : Int32) (σ : Mm) : Option (Int32 × Mm) :=
Option.bind (gR σ (64 * t + 1)) fun o1 =>
kf_in a0 (mm_kd o1).2.2 <|
some ((gB σ o1 a0.toNatClampNeg) &&& 255, σ)
theorem d_Md_at_0 : decode prog_14_method_11_code 0 = .ok (.aload_n 0, 1) := by decide +kernel
theorem d_Md_at_1 : decode prog_14_method_11_code 1 = .ok (.getfield 8, 3) := by decide +kernel
theorem d_Md_at_4 : decode prog_14_method_11_code 4 = .ok (.iload_n 1, 1) := by decide +kernel
theorem d_Md_at_5 : decode prog_14_method_11_code 5 = .ok (.baload, 1) := by decide +kernel
theorem d_Md_at_6 : decode prog_14_method_11_code 6 = .ok (.sipush 255, 3) := by decide +kernel
theorem d_Md_at_9 : decode prog_14_method_11_code 9 = .ok (.iand, 1) := by decide +kernel
theorem d_Md_at_10 : decode prog_14_method_11_code 10 = .ok (.ireturn, 1) := by decide +kernel
set_option maxRecDepth 100000 in
set_option maxHeartbeats 4000000 in
theorem c_Md_at {l0 : Launch} (hl : l0.stackTraces = false) (n : Nat) (ids : List Nat) {t : Nat} (ht : mm_ok ids t 1 12) (a0 : Int32) (σ : Mm) : kw_C l0 y_Md_at (Cond.code y_Md_at prog_14_method_11_code 2 (some .int) :: kw_Ts) rm_Md_at kw_oi ids [] [.ref t, .int a0] σ (F_Md_at n t a0 σ) := by
  refine kw_start (L0 := [some (.ref t), some (.int a0)]) hl (by decide +kernel) (Nat.le_of_ble_eq_true rfl) rfl (fun Γ ad C Ce => ?_)
  unfold F_Md_at
  refine kw_aload_n C d_Md_at_0 rfl ?_
  refine kw_getR C fi_Md_8 rfl rfl ht d_Md_at_1 (fun o1 ho1 => ?_)
  refine kw_iload_n C d_Md_at_4 rfl ?_
  refine kw_bald C ho1 d_Md_at_5 ?_
  refine kw_sipush (v := 255) C d_Md_at_6 (by decide) ?_
  refine kw_iand C d_Md_at_9 ?_
  exact kw_iret C Ce rfl (by simp) (fun _ _ => rfl) (Nat.le_of_ble_eq_true rfl) (Nat.le_of_ble_eq_true rfl) rfl d_Md_at_10
/-! Md_check -/
def rm_Md_check : Room := { frames := 1, cells := 0, slots := 0, locals := 21 }
def F_Md_check (n : Nat) (t : Nat) (a0 : Int32) (a1 : Int32) (σ : Mm) : Option (Int64 × Mm) :=
kf_let (-1 : Int32) fun x1 =>
kf_l (α := Int32 × Int32) n (fun k2 x3 σ4 =>
if (a0 + a1) ≤ x3.2 then (
some (((x3.1 ^^^ (-1)).toInt64) &&& 4294967295, σ4)) else (
kf_l (α := Int32 × Int32) n (fun k5 x6 σ7 =>
if 8 ≤ x6.2 then (
kf_let (x3.2 + Int32.ofInt 1) fun x8 =>
k2 (x6.1, x8) σ7) else (
kf_c2 (F_Md_at n t x3.2 σ7) fun x9 σ10 =>
kf_j (α := Int32) (fun x12 σ13 =>
kf_let ((x6.1.toUInt32 >>> ((1 : Int32).toUInt32 &&& Int32.toUInt32 31)).toInt32 : Int32) fun x14 =>
kf_j (α := Int32) (fun x16 σ17 =>
kf_let (x6.2 + Int32.ofInt 1) fun x18 =>
k5 (x16, x18) σ17) fun k15 =>
if x12 = 0 then (
k15 x14 σ13) else (
k15 (x14 ^^^ (-306674912)) σ13)) fun k11 =>
if (x6.1 &&& 1) = ((x9 >>> (x6.2 &&& 31)) &&& 1) then (
k11 0 σ10) else (
k11 1 σ10))) (x3.1, 0) σ4)) (x1, a0) σ
theorem d_Md_check_0 : decode prog_14_method_14_code 0 = .ok (.iconst (-1), 1) := by decide +kernel
theorem d_Md_check_1 : decode prog_14_method_14_code 1 = .ok (.istore_n 3, 1) := by decide +kernel
theorem d_Md_check_2 : decode prog_14_method_14_code 2 = .ok (.iload_n 1, 1) := by decide +kernel
theorem d_Md_check_3 : decode prog_14_method_14_code 3 = .ok (.istore 4, 2) := by decide +kernel
theorem d_Md_check_5 : decode prog_14_method_14_code 5 = .ok (.iload 4, 2) := by decide +kernel
theorem d_Md_check_7 : decode prog_14_method_14_code 7 = .ok (.iload_n 1, 1) := by decide +kernel
theorem d_Md_check_8 : decode prog_14_method_14_code 8 = .ok (.iload_n 2, 1) := by decide +kernel
theorem d_Md_check_9 : decode prog_14_method_14_code 9 = .ok (.iadd, 1) := by decide +kernel
theorem d_Md_check_10 : decode prog_14_method_14_code 10 = .ok (.if_icmp .ge 67, 3) := by decide +kernel
theorem d_Md_check_13 : decode prog_14_method_14_code 13 = .ok (.iconst 0, 1) := by decide +kernel
theorem d_Md_check_14 : decode prog_14_method_14_code 14 = .ok (.istore 5, 2) := by decide +kernel
theorem d_Md_check_16 : decode prog_14_method_14_code 16 = .ok (.iload 5, 2) := by decide +kernel
theorem d_Md_check_18 : decode prog_14_method_14_code 18 = .ok (.bipush 8, 2) := by decide +kernel
theorem d_Md_check_20 : decode prog_14_method_14_code 20 = .ok (.if_icmp .ge 51, 3) := by decide +kernel
theorem d_Md_check_23 : decode prog_14_method_14_code 23 = .ok (.iload_n 3, 1) := by decide +kernel
theorem d_Md_check_24 : decode prog_14_method_14_code 24 = .ok (.iconst 1, 1) := by decide +kernel
theorem d_Md_check_25 : decode prog_14_method_14_code 25 = .ok (.iand, 1) := by decide +kernel
theorem d_Md_check_26 : decode prog_14_method_14_code 26 = .ok (.aload_n 0, 1) := by decide +kernel
theorem d_Md_check_27 : decode prog_14_method_14_code 27 = .ok (.iload 4, 2) := by decide +kernel
theorem d_Md_check_29 : decode prog_14_method_14_code 29 = .ok (.invokevirtual 84, 3) := by decide +kernel
theorem d_Md_check_32 : decode prog_14_method_14_code 32 = .ok (.iload 5, 2) := by decide +kernel
theorem d_Md_check_34 : decode prog_14_method_14_code 34 = .ok (.ishr, 1) := by decide +kernel
theorem d_Md_check_35 : decode prog_14_method_14_code 35 = .ok (.iconst 1, 1) := by decide +kernel
theorem d_Md_check_36 : decode prog_14_method_14_code 36 = .ok (.iand, 1) := by decide +kernel
theorem d_Md_check_37 : decode prog_14_method_14_code 37 = .ok (.if_icmp .eq 7, 3) := by decide +kernel
theorem d_Md_check_40 : decode prog_14_method_14_code 40 = .ok (.iconst 1, 1) := by decide +kernel
theorem d_Md_check_41 : decode prog_14_method_14_code 41 = .ok (.goto 4, 3) := by decide +kernel
theorem d_Md_check_44 : decode prog_14_method_14_code 44 = .ok (.iconst 0, 1) := by decide +kernel
theorem d_Md_check_45 : decode prog_14_method_14_code 45 = .ok (.istore 6, 2) := by decide +kernel
theorem d_Md_check_47 : decode prog_14_method_14_code 47 = .ok (.iload_n 3, 1) := by decide +kernel
theorem d_Md_check_48 : decode prog_14_method_14_code 48 = .ok (.iconst 1, 1) := by decide +kernel
theorem d_Md_check_49 : decode prog_14_method_14_code 49 = .ok (.iushr, 1) := by decide +kernel
theorem d_Md_check_50 : decode prog_14_method_14_code 50 = .ok (.istore_n 3, 1) := by decide +kernel
theorem d_Md_check_51 : decode prog_14_method_14_code 51 = .ok (.iload 6, 2) := by decide +kernel
theorem d_Md_check_53 : decode prog_14_method_14_code 53 = .ok (.ifCond .eq 10, 3) := by decide +kernel
theorem d_Md_check_56 : decode prog_14_method_14_code 56 = .ok (.iload_n 3, 1) := by decide +kernel
theorem d_Md_check_57 : decode prog_14_method_14_code 57 = .ok (.ldc 88, 2) := by decide +kernel
theorem d_Md_check_59 : decode prog_14_method_14_code 59 = .ok (.ixor, 1) := by decide +kernel
theorem d_Md_check_60 : decode prog_14_method_14_code 60 = .ok (.goto 4, 3) := by decide +kernel
theorem d_Md_check_63 : decode prog_14_method_14_code 63 = .ok (.iload_n 3, 1) := by decide +kernel
theorem d_Md_check_64 : decode prog_14_method_14_code 64 = .ok (.istore_n 3, 1) := by decide +kernel
theorem d_Md_check_65 : decode prog_14_method_14_code 65 = .ok (.iinc 5 1, 3) := by decide +kernel
theorem d_Md_check_68 : decode prog_14_method_14_code 68 = .ok (.goto (-52), 3) := by decide +kernel
theorem d_Md_check_71 : decode prog_14_method_14_code 71 = .ok (.iinc 4 1, 3) := by decide +kernel
theorem d_Md_check_74 : decode prog_14_method_14_code 74 = .ok (.goto (-69), 3) := by decide +kernel
theorem d_Md_check_77 : decode prog_14_method_14_code 77 = .ok (.iload_n 3, 1) := by decide +kernel
theorem d_Md_check_78 : decode prog_14_method_14_code 78 = .ok (.iconst (-1), 1) := by decide +kernel
theorem d_Md_check_79 : decode prog_14_method_14_code 79 = .ok (.ixor, 1) := by decide +kernel
theorem d_Md_check_80 : decode prog_14_method_14_code 80 = .ok (.i2l, 1) := by decide +kernel
theorem d_Md_check_81 : decode prog_14_method_14_code 81 = .ok (.ldc2_w 89, 3) := by decide +kernel
theorem d_Md_check_84 : decode prog_14_method_14_code 84 = .ok (.land, 1) := by decide +kernel
theorem d_Md_check_85 : decode prog_14_method_14_code 85 = .ok (.lreturn, 1) := by decide +kernel
set_option maxRecDepth 100000 in
set_option maxHeartbeats 4000000 in
theorem c_Md_check {l0 : Launch} (hl : l0.stackTraces = false) (n : Nat) (ids : List Nat) {t : Nat} (ht : mm_ok ids t 1 12) (a0 : Int32) (a1 : Int32) (σ : Mm) : kw_C l0 y_Md_check (Cond.code y_Md_check prog_14_method_14_code 7 (some .long) :: kw_Ts) rm_Md_check kw_ol ids [] [.ref t, .int a0, .int a1] σ (F_Md_check n t a0 a1 σ) := by
  refine kw_start (L0 := [some (.ref t), some (.int a0), some (.int a1), none, none, none, none]) hl (by decide +kernel) (Nat.le_of_ble_eq_true rfl) rfl (fun Γ ad C Ce => ?_)
  unfold F_Md_check
  refine kw_iconst (v := -1) C d_Md_check_0 (by decide) ?_
  refine kw_leti (fun x1 => ?_)
  refine kw_istore_n (L' := [some (.ref t), some (.int a0), some (.int a1), some (.int x1), none, none, none]) C d_Md_check_1 (by decide) rfl ?_
  refine kw_iload_n C d_Md_check_2 rfl ?_
  refine kw_istore (L' := [some (.ref t), some (.int a0), some (.int a1), some (.int x1), some (.int a0), none, none]) C d_Md_check_3 (by decide) rfl ?_
  refine kw_wk (kw_l (α := Int32 × Int32) (pc := 5) (Lj := fun x3 => [some (.ref t), some (.int a0), some (.int a1), some (.int x3.1), some (.int x3.2), none, none]) (stj := fun x3 => []) (fun k2 hk2 x3 σ4 => ?_) n (x1, a0) σ) ⟨Or.inr rfl, Or.inr rfl, Or.inr rfl, Or.inr rfl, Or.inr rfl, Or.inl rfl, Or.inl rfl, trivial⟩
  refine kw_iload C d_Md_check_5 rfl ?_
  refine kw_iload_n C d_Md_check_7 rfl ?_
  refine kw_iload_n C d_Md_check_8 rfl ?_
  refine kw_iadd C d_Md_check_9 ?_
  refine kw_icmp_ge (tgt := 77) C d_Md_check_10 (by decide) ?_ ?_
  · refine kw_iload_n C d_Md_check_77 rfl ?_
    refine kw_iconst (v := -1) C d_Md_check_78 (by decide) ?_
    refine kw_ixor C d_Md_check_79 ?_
    refine kw_i2l C d_Md_check_80 ?_
    refine kw_ldc2 (v := 4294967295) C d_Md_check_81 k_Md_89 ?_
    refine kw_land C d_Md_check_84 ?_
    exact kw_lret C Ce rfl (by simp) (fun _ _ => rfl) (Nat.le_of_ble_eq_true rfl) (Nat.le_of_ble_eq_true rfl) rfl d_Md_check_85
  · refine kw_iconst (v := 0) C d_Md_check_13 (by decide) ?_
    refine kw_istore (L' := [some (.ref t), some (.int a0), some (.int a1), some (.int x3.1), some (.int x3.2), some (.int 0), none]) C d_Md_check_14 (by decide) rfl ?_
    refine kw_wk (kw_l (α := Int32 × Int32) (pc := 16) (Lj := fun x6 => [some (.ref t), some (.int a0), some (.int a1), some (.int x6.1), some (.int x3.2), some (.int x6.2), none]) (stj := fun x6 => []) (fun k5 hk5 x6 σ7 => ?_) n (x3.1, 0) σ4) ⟨Or.inr rfl, Or.inr rfl, Or.inr rfl, Or.inr rfl, Or.inr rfl, Or.inr rfl, Or.inl rfl, trivial⟩
    refine kw_iload C d_Md_check_16 rfl ?_
    refine kw_bipush (v := 8) C d_Md_check_18 (by decide) ?_
    refine kw_icmp_ge (tgt := 71) C d_Md_check_20 (by decide) ?_ ?_
    · refine kw_iincL (L2 := fun x8 => [some (.ref t), some (.int a0), some (.int a1), some (.int x6.1), some (.int x8), some (.int x6.2), none]) C d_Md_check_71 (by decide) rfl (fun _ => rfl) (fun x8 => ?_)
      refine kw_goto (tgt := 5) C d_Md_check_74 (by decide) ?_
      exact kw_wk (hk2 (x6.1, x8) σ7) ⟨Or.inr rfl, Or.inr rfl, Or.inr rfl, Or.inr rfl, Or.inr rfl, Or.inl rfl, Or.inl rfl, trivial⟩
    · refine kw_iload_n C d_Md_check_23 rfl ?_
      refine kw_iconst (v := 1) C d_Md_check_24 (by decide) ?_
      refine kw_iand C d_Md_check_25 ?_
      refine kw_aload_n C d_Md_check_26 rfl ?_
      refine kw_iload C d_Md_check_27 rfl ?_
      refine kw_callVi (cl' := 0) (sl' := 0) (As := [.int x3.2]) C (c_Md_at hl n ids ht x3.2 σ7) mi_Md_84 v_Md_at ⟨_, _, rfl⟩ ht ⟨Nat.le_of_ble_eq_true rfl, Nat.le_of_ble_eq_true rfl⟩ (Nat.le_of_ble_eq_true rfl) ⟨Nat.le_of_ble_eq_true rfl, Nat.le_of_ble_eq_true rfl⟩ ⟨rfl, rfl⟩ rfl d_Md_check_29 (fun x9 σ10 => ?_)
      refine kw_iload C d_Md_check_32 rfl ?_
      refine kw_ishr C d_Md_check_34 ?_
      refine kw_iconst (v := 1) C d_Md_check_35 (by decide) ?_
      refine kw_iand C d_Md_check_36 ?_
      refine kw_j (α := Int32) (pcj := 45) (Lj := fun x12 => [some (.ref t), some (.int a0), some (.int a1), some (.int x6.1), some (.int x3.2), some (.int x6.2), none]) (stj := fun x12 => [.int x12]) (fun x12 σ13 => ?_) (fun k11 hk11 => ?_)
      · refine kw_istore (L' := [some (.ref t), some (.int a0), some (.int a1), some (.int x6.1), some (.int x3.2), some (.int x6.2), some (.int x12)]) C d_Md_check_45 (by decide) rfl ?_
        refine kw_iload_n C d_Md_check_47 rfl ?_
        refine kw_iconst (v := 1) C d_Md_check_48 (by decide) ?_
        refine kw_iushr C d_Md_check_49 ?_
        refine kw_leti (fun x14 => ?_)
        refine kw_istore_n (L' := [some (.ref t), some (.int a0), some (.int a1), some (.int x14), some (.int x3.2), some (.int x6.2), some (.int x12)]) C d_Md_check_50 (by decide) rfl ?_
        refine kw_iload C d_Md_check_51 rfl ?_
        refine kw_j (α := Int32) (pcj := 64) (Lj := fun x16 => [some (.ref t), some (.int a0), some (.int a1), none, some (.int x3.2), some (.int x6.2), none]) (stj := fun x16 => [.int x16]) (fun x16 σ17 => ?_) (fun k15 hk15 => ?_)
        · refine kw_istore_n (L' := [some (.ref t), some (.int a0), some (.int a1), some (.int x16), some (.int x3.2), some (.int x6.2), none]) C d_Md_check_64 (by decide) rfl ?_
          refine kw_iincL (L2 := fun x18 => [some (.ref t), some (.int a0), some (.int a1), some (.int x16), some (.int x3.2), some (.int x18), none]) C d_Md_check_65 (by decide) rfl (fun _ => rfl) (fun x18 => ?_)
          refine kw_goto (tgt := 16) C d_Md_check_68 (by decide) ?_
          exact kw_wk (hk5 (x16, x18) σ17) ⟨Or.inr rfl, Or.inr rfl, Or.inr rfl, Or.inr rfl, Or.inr rfl, Or.inr rfl, Or.inl rfl, trivial⟩
        · refine kw_if_eq (tgt := 63) C d_Md_check_53 (by decide) ?_ ?_
          · refine kw_iload_n C d_Md_check_63 rfl ?_
            exact kw_wk (hk15 x14 σ13) ⟨Or.inr rfl, Or.inr rfl, Or.inr rfl, Or.inl rfl, Or.inr rfl, Or.inr rfl, Or.inl rfl, trivial⟩
          · refine kw_iload_n C d_Md_check_56 rfl ?_
            refine kw_ldc (v := -306674912) C d_Md_check_57 k_Md_88 ?_
            refine kw_ixor C d_Md_check_59 ?_
            refine kw_goto (tgt := 64) C d_Md_check_60 (by decide) ?_
            exact kw_wk (hk15 (x14 ^^^ (-306674912)) σ13) ⟨Or.inr rfl, Or.inr rfl, Or.inr rfl, Or.inl rfl, Or.inr rfl, Or.inr rfl, Or.inl rfl, trivial⟩
      · refine kw_icmp_eq (tgt := 44) C d_Md_check_37 (by decide) ?_ ?_
        · refine kw_iconst (v := 0) C d_Md_check_44 (by decide) ?_
          exact kw_wk (hk11 0 σ10) ⟨Or.inr rfl, Or.inr rfl, Or.inr rfl, Or.inr rfl, Or.inr rfl, Or.inr rfl, Or.inl rfl, trivial⟩
        · refine kw_iconst (v := 1) C d_Md_check_40 (by decide) ?_
          refine kw_goto (tgt := 45) C d_Md_check_41 (by decide) ?_
          exact kw_wk (hk11 1 σ10) ⟨Or.inr rfl, Or.inr rfl, Or.inr rfl, Or.inr rfl, Or.inr rfl, Or.inr rfl, Or.inl rfl, trivial⟩
/-! Md_putNumber -/
def rm_Md_putNumber : Room := { frames := 0, cells := 0, slots := 0, locals := 0 }
def F_Md_putNumber (n : Nat) (t : Nat) (a0 : Int32) (a1 : Int64) (σ : Mm) : Option (Mm) :=
kf_l (α := Int32) n (fun k1 x2 σ3 =>
if 4 ≤ x2 then (
some σ3) else (
Option.bind (gR σ3 (64 * t + 1)) fun o4 =>
kf_in (a0 + x2) (mm_kd o4).2.2 <| kf_let (pB σ3 o4 (a0 + x2).toNatClampNeg (vp_nar .byte (((a1 >>> (((24 : Int32) - ((8 : Int32) * x2)).toInt64 &&& 63)).toInt32).toInt8.toInt32))) fun σ5 =>
kf_let (x2 + Int32.ofInt 1) fun x6 =>
k1 x6 σ5)) 0 σ
theorem d_Md_putNumber_0 : decode prog_14_method_13_code 0 = .ok (.iconst 0, 1) := by decide +kernel
theorem d_Md_putNumber_1 : decode prog_14_method_13_code 1 = .ok (.istore 4, 2) := by decide +kernel
theorem d_Md_putNumber_3 : decode prog_14_method_13_code 3 = .ok (.iload 4, 2) := by decide +kernel
theorem d_Md_putNumber_5 : decode prog_14_method_13_code 5 = .ok (.iconst 4, 1) := by decide +kernel
theorem d_Md_putNumber_6 : decode prog_14_method_13_code 6 = .ok (.if_icmp .ge 30, 3) := by decide +kernel
theorem d_Md_putNumber_9 : decode prog_14_method_13_code 9 = .ok (.aload_n 0, 1) := by decide +kernel
theorem d_Md_putNumber_10 : decode prog_14_method_13_code 10 = .ok (.getfield 8, 3) := by decide +kernel
theorem d_Md_putNumber_13 : decode prog_14_method_13_code 13 = .ok (.iload_n 1, 1) := by decide +kernel
theorem d_Md_putNumber_14 : decode prog_14_method_13_code 14 = .ok (.iload 4, 2) := by decide +kernel
theorem d_Md_putNumber_16 : decode prog_14_method_13_code 16 = .ok (.iadd, 1) := by decide +kernel
theorem d_Md_putNumber_17 : decode prog_14_method_13_code 17 = .ok (.lload_n 2, 1) := by decide +kernel
theorem d_Md_putNumber_18 : decode prog_14_method_13_code 18 = .ok (.bipush 24, 2) := by decide +kernel
theorem d_Md_putNumber_20 : decode prog_14_method_13_code 20 = .ok (.bipush 8, 2) := by decide +kernel
theorem d_Md_putNumber_22 : decode prog_14_method_13_code 22 = .ok (.iload 4, 2) := by decide +kernel
theorem d_Md_putNumber_24 : decode prog_14_method_13_code 24 = .ok (.imul, 1) := by decide +kernel
theorem d_Md_putNumber_25 : decode prog_14_method_13_code 25 = .ok (.isub, 1) := by decide +kernel
theorem d_Md_putNumber_26 : decode prog_14_method_13_code 26 = .ok (.lshr, 1) := by decide +kernel
theorem d_Md_putNumber_27 : decode prog_14_method_13_code 27 = .ok (.l2i, 1) := by decide +kernel
theorem d_Md_putNumber_28 : decode prog_14_method_13_code 28 = .ok (.i2b, 1) := by decide +kernel
theorem d_Md_putNumber_29 : decode prog_14_method_13_code 29 = .ok (.bastore, 1) := by decide +kernel
theorem d_Md_putNumber_30 : decode prog_14_method_13_code 30 = .ok (.iinc 4 1, 3) := by decide +kernel
theorem d_Md_putNumber_33 : decode prog_14_method_13_code 33 = .ok (.goto (-30), 3) := by decide +kernel
theorem d_Md_putNumber_36 : decode prog_14_method_13_code 36 = .ok (.return_, 1) := by decide +kernel
set_option maxRecDepth 100000 in
set_option maxHeartbeats 4000000 in
theorem c_Md_putNumber {l0 : Launch} (hl : l0.stackTraces = false) (n : Nat) (ids : List Nat) {t : Nat} (ht : mm_ok ids t 1 12) (a0 : Int32) (a1 : Int64) (σ : Mm) : kw_C l0 y_Md_putNumber (Cond.code y_Md_putNumber prog_14_method_13_code 5 none :: kw_Ts) rm_Md_putNumber kw_ov ids [] [.ref t, .int a0, .long a1] σ (F_Md_putNumber n t a0 a1 σ) := by
  refine kw_start (L0 := [some (.ref t), some (.int a0), some (.long a1), none, none]) hl (by decide +kernel) (Nat.le_of_ble_eq_true rfl) rfl (fun Γ ad C Ce => ?_)
  unfold F_Md_putNumber
  refine kw_iconst (v := 0) C d_Md_putNumber_0 (by decide) ?_
  refine kw_istore (L' := [some (.ref t), some (.int a0), some (.long a1), none, some (.int 0)]) C d_Md_putNumber_1 (by decide) rfl ?_
  refine kw_wk (kw_l (α := Int32) (pc := 3) (Lj := fun x2 => [some (.ref t), some (.int a0), some (.long a1), none, some (.int x2)]) (stj := fun x2 => []) (fun k1 hk1 x2 σ3 => ?_) n 0 σ) ⟨Or.inr rfl, Or.inr rfl, Or.inr rfl, Or.inl rfl, Or.inr rfl, trivial⟩
  refine kw_iload C d_Md_putNumber_3 rfl ?_
  refine kw_iconst (v := 4) C d_Md_putNumber_5 (by decide) ?_
  refine kw_icmp_ge (tgt := 36) C d_Md_putNumber_6 (by decide) ?_ ?_
  · exact kw_vret C Ce rfl (by simp) (fun _ _ => rfl) (Nat.le_of_ble_eq_true rfl) (Nat.le_of_ble_eq_true rfl) rfl d_Md_putNumber_36
  · refine kw_aload_n C d_Md_putNumber_9 rfl ?_
    refine kw_getR C fi_Md_8 rfl rfl ht d_Md_putNumber_10 (fun o4 ho4 => ?_)
    refine kw_iload_n C d_Md_putNumber_13 rfl ?_
    refine kw_iload C d_Md_putNumber_14 rfl ?_
    refine kw_iadd C d_Md_putNumber_16 ?_
    refine kw_lload_n C d_Md_putNumber_17 rfl ?_
    refine kw_bipush (v := 24) C d_Md_putNumber_18 (by decide) ?_
    refine kw_bipush (v := 8) C d_Md_putNumber_20 (by decide) ?_
    refine kw_iload C d_Md_putNumber_22 rfl ?_
    refine kw_imul C d_Md_putNumber_24 ?_
    refine kw_isub C d_Md_putNumber_25 ?_
    refine kw_lshr C d_Md_putNumber_26 ?_
    refine kw_l2i C d_Md_putNumber_27 ?_
    refine kw_i2b C d_Md_putNumber_28 ?_
    refine kw_bast C ho4 d_Md_putNumber_29 (fun σ5 => ?_)
    refine kw_iincL (L2 := fun x6 => [some (.ref t), some (.int a0), some (.long a1), none, some (.int x6)]) C d_Md_putNumber_30 (by decide) rfl (fun _ => rfl) (fun x6 => ?_)
    refine kw_goto (tgt := 3) C d_Md_putNumber_33 (by decide) ?_
    exact kw_wk (hk1 x6 σ5) ⟨Or.inr rfl, Or.inr rfl, Or.inr rfl, Or.inl rfl, Or.inr rfl, trivial⟩
/-! Md_mend -/
def rm_Md_mend : Room := { frames := 2, cells := 0, slots := 0, locals := 47 }
def F_Md_mend (n : Nat) (t : Nat) (a0 : Int32) (a1 : Int32) (σ : Mm) : Option (Mm) :=
kf_j (α := Int32) (fun x2 σ3 =>
kf_let (pS σ3 (64 * t + 0) x2) fun σ4 =>
kf_j (α := Unit) (fun x6 σ7 =>
some σ7) fun k5 =>
if (gS σ4 (64 * t + 0)) = 0 then (
kf_c2 (F_Md_check n t a0 a1 σ4) fun x8 σ9 =>
Option.bind (F_Md_putNumber n t (a0 + a1) x8 σ9) fun σ10 =>
k5 () σ10) else (
k5 () σ4)) fun k1 =>
kf_j (α := Unit) (fun x12 σ13 =>
k1 1 σ13) fun k11 =>
if a0 < 0 then (
k11 () σ) else (
if a1 < 0 then (
k11 () σ) else (
if (lg_cmp ((a0.toInt64 + a1.toInt64) + 4) ((gS σ (64 * t + 2)).toInt64)) ≤ 0 then (
k1 0 σ) else (
k11 () σ)))
theorem d_Md_mend_0 : decode prog_14_method_10_code 0 = .ok (.aload_n 0, 1) := by decide +kernel
theorem d_Md_mend_1 : decode prog_14_method_10_code 1 = .ok (.iload_n 1, 1) := by decide +kernel
theorem d_Md_mend_2 : decode prog_14_method_10_code 2 = .ok (.ifCond .lt 25, 3) := by decide +kernel
theorem d_Md_mend_5 : decode prog_14_method_10_code 5 = .ok (.iload_n 2, 1) := by decide +kernel
theorem d_Md_mend_6 : decode prog_14_method_10_code 6 = .ok (.ifCond .lt 21, 3) := by decide +kernel
theorem d_Md_mend_9 : decode prog_14_method_10_code 9 = .ok (.iload_n 1, 1) := by decide +kernel
theorem d_Md_mend_10 : decode prog_14_method_10_code 10 = .ok (.i2l, 1) := by decide +kernel
theorem d_Md_mend_11 : decode prog_14_method_10_code 11 = .ok (.iload_n 2, 1) := by decide +kernel
theorem d_Md_mend_12 : decode prog_14_method_10_code 12 = .ok (.i2l, 1) := by decide +kernel
theorem d_Md_mend_13 : decode prog_14_method_10_code 13 = .ok (.ladd, 1) := by decide +kernel
theorem d_Md_mend_14 : decode prog_14_method_10_code 14 = .ok (.ldc2_w 74, 3) := by decide +kernel
theorem d_Md_mend_17 : decode prog_14_method_10_code 17 = .ok (.ladd, 1) := by decide +kernel
theorem d_Md_mend_18 : decode prog_14_method_10_code 18 = .ok (.aload_n 0, 1) := by decide +kernel
theorem d_Md_mend_19 : decode prog_14_method_10_code 19 = .ok (.getfield 71, 3) := by decide +kernel
theorem d_Md_mend_22 : decode prog_14_method_10_code 22 = .ok (.i2l, 1) := by decide +kernel
theorem d_Md_mend_23 : decode prog_14_method_10_code 23 = .ok (.lcmp, 1) := by decide +kernel
theorem d_Md_mend_24 : decode prog_14_method_10_code 24 = .ok (.ifCond .le 7, 3) := by decide +kernel
theorem d_Md_mend_27 : decode prog_14_method_10_code 27 = .ok (.iconst 1, 1) := by decide +kernel
theorem d_Md_mend_28 : decode prog_14_method_10_code 28 = .ok (.goto 4, 3) := by decide +kernel
theorem d_Md_mend_31 : decode prog_14_method_10_code 31 = .ok (.iconst 0, 1) := by decide +kernel
theorem d_Md_mend_32 : decode prog_14_method_10_code 32 = .ok (.putfield 67, 3) := by decide +kernel
theorem d_Md_mend_35 : decode prog_14_method_10_code 35 = .ok (.aload_n 0, 1) := by decide +kernel
theorem d_Md_mend_36 : decode prog_14_method_10_code 36 = .ok (.getfield 67, 3) := by decide +kernel
theorem d_Md_mend_39 : decode prog_14_method_10_code 39 = .ok (.ifCond .ne 16, 3) := by decide +kernel
theorem d_Md_mend_42 : decode prog_14_method_10_code 42 = .ok (.aload_n 0, 1) := by decide +kernel
theorem d_Md_mend_43 : decode prog_14_method_10_code 43 = .ok (.iload_n 1, 1) := by decide +kernel
theorem d_Md_mend_44 : decode prog_14_method_10_code 44 = .ok (.iload_n 2, 1) := by decide +kernel
theorem d_Md_mend_45 : decode prog_14_method_10_code 45 = .ok (.iadd, 1) := by decide +kernel
theorem d_Md_mend_46 : decode prog_14_method_10_code 46 = .ok (.aload_n 0, 1) := by decide +kernel
theorem d_Md_mend_47 : decode prog_14_method_10_code 47 = .ok (.iload_n 1, 1) := by decide +kernel
theorem d_Md_mend_48 : decode prog_14_method_10_code 48 = .ok (.iload_n 2, 1) := by decide +kernel
theorem d_Md_mend_49 : decode prog_14_method_10_code 49 = .ok (.invokevirtual 76, 3) := by decide +kernel
theorem d_Md_mend_52 : decode prog_14_method_10_code 52 = .ok (.invokevirtual 80, 3) := by decide +kernel
theorem d_Md_mend_55 : decode prog_14_method_10_code 55 = .ok (.return_, 1) := by decide +kernel
set_option maxRecDepth 100000 in
set_option maxHeartbeats 4000000 in
theorem c_Md_mend {l0 : Launch} (hl : l0.stackTraces = false) (n : Nat) (ids : List Nat) {t : Nat} (ht : mm_ok ids t 1 12) (a0 : Int32) (a1 : Int32) (σ : Mm) : kw_C l0 y_Md_mend (Cond.code y_Md_mend prog_14_method_10_code 3 none :: kw_Ts) rm_Md_mend kw_ov ids [] [.ref t, .int a0, .int a1] σ (F_Md_mend n t a0 a1 σ) := by
  refine kw_start (L0 := [some (.ref t), some (.int a0), some (.int a1)]) hl (by decide +kernel) (Nat.le_of_ble_eq_true rfl) rfl (fun Γ ad C Ce => ?_)
  unfold F_Md_mend
  refine kw_aload_n C d_Md_mend_0 rfl ?_
  refine kw_iload_n C d_Md_mend_1 rfl ?_
  refine kw_j (α := Int32) (pcj := 32) (Lj := fun x2 => [some (.ref t), some (.int a0), some (.int a1)]) (stj := fun x2 => [.int x2, .ref t]) (fun x2 σ3 => ?_) (fun k1 hk1 => ?_)
  · refine kw_putI C fi_Md_67 rfl ht d_Md_mend_32 (fun σ4 => ?_)
    refine kw_aload_n C d_Md_mend_35 rfl ?_
    refine kw_getI C fi_Md_67 (Or.inl rfl) ht d_Md_mend_36 ?_
    refine kw_j (α := Unit) (pcj := 55) (Lj := fun x6 => [none, none, none]) (stj := fun x6 => []) (fun x6 σ7 => ?_) (fun k5 hk5 => ?_)
    · exact kw_vret C Ce rfl (by simp) (fun _ _ => rfl) (Nat.le_of_ble_eq_true rfl) (Nat.le_of_ble_eq_true rfl) rfl d_Md_mend_55
    · refine kw_if_ne (tgt := 55) C d_Md_mend_39 (by decide) ?_ ?_
      · exact kw_wk (hk5 () σ4) ⟨Or.inl rfl, Or.inl rfl, Or.inl rfl, trivial⟩
      · refine kw_aload_n C d_Md_mend_42 rfl ?_
        refine kw_iload_n C d_Md_mend_43 rfl ?_
        refine kw_iload_n C d_Md_mend_44 rfl ?_
        refine kw_iadd C d_Md_mend_45 ?_
        refine kw_aload_n C d_Md_mend_46 rfl ?_
        refine kw_iload_n C d_Md_mend_47 rfl ?_
        refine kw_iload_n C d_Md_mend_48 rfl ?_
        refine kw_callVl (cl' := 0) (sl' := 0) (As := [.int a0, .int a1]) C (c_Md_check hl n ids ht a0 a1 σ4) mi_Md_76 v_Md_check ⟨_, _, rfl⟩ ht ⟨Nat.le_of_ble_eq_true rfl, Nat.le_of_ble_eq_true rfl⟩ (Nat.le_of_ble_eq_true rfl) ⟨Nat.le_of_ble_eq_true rfl, Nat.le_of_ble_eq_true rfl⟩ ⟨rfl, rfl⟩ rfl d_Md_mend_49 (fun x8 σ9 => ?_)
        refine kw_callVv (cl' := 0) (sl' := 0) (As := [.int (a0 + a1), .long x8]) C (c_Md_putNumber hl n ids ht (a0 + a1) x8 σ9) mi_Md_80 v_Md_putNumber ⟨_, _, rfl⟩ ht ⟨Nat.le_of_ble_eq_true rfl, Nat.le_of_ble_eq_true rfl⟩ (Nat.le_of_ble_eq_true rfl) ⟨Nat.le_of_ble_eq_true rfl, Nat.le_of_ble_eq_true rfl⟩ ⟨rfl, rfl⟩ rfl d_Md_mend_52 (fun σ10 => ?_)
        exact kw_wk (hk5 () σ10) ⟨Or.inl rfl, Or.inl rfl, Or.inl rfl, trivial⟩
  · refine kw_j (α := Unit) (pcj := 27) (Lj := fun x12 => [some (.ref t), some (.int a0), some (.int a1)]) (stj := fun x12 => [.ref t]) (fun x12 σ13 => ?_) (fun k11 hk11 => ?_)
    · refine kw_iconst (v := 1) C d_Md_mend_27 (by decide) ?_
      refine kw_goto (tgt := 32) C d_Md_mend_28 (by decide) ?_
      exact kw_wk (hk1 1 σ13) ⟨Or.inr rfl, Or.inr rfl, Or.inr rfl, trivial⟩
    · refine kw_if_lt (tgt := 27) C d_Md_mend_2 (by decide) ?_ ?_
      · exact kw_wk (hk11 () σ) ⟨Or.inr rfl, Or.inr rfl, Or.inr rfl, trivial⟩
      · refine kw_iload_n C d_Md_mend_5 rfl ?_
        refine kw_if_lt (tgt := 27) C d_Md_mend_6 (by decide) ?_ ?_
        · exact kw_wk (hk11 () σ) ⟨Or.inr rfl, Or.inr rfl, Or.inr rfl, trivial⟩
        · refine kw_iload_n C d_Md_mend_9 rfl ?_
          refine kw_i2l C d_Md_mend_10 ?_
          refine kw_iload_n C d_Md_mend_11 rfl ?_
          refine kw_i2l C d_Md_mend_12 ?_
          refine kw_ladd C d_Md_mend_13 ?_
          refine kw_ldc2 (v := 4) C d_Md_mend_14 k_Md_74 ?_
          refine kw_ladd C d_Md_mend_17 ?_
          refine kw_aload_n C d_Md_mend_18 rfl ?_
          refine kw_getI C fi_Md_71 (Or.inl rfl) ht d_Md_mend_19 ?_
          refine kw_i2l C d_Md_mend_22 ?_
          refine kw_lcmp C d_Md_mend_23 ?_
          refine kw_if_le (tgt := 31) C d_Md_mend_24 (by decide) ?_ ?_
          · refine kw_iconst (v := 0) C d_Md_mend_31 (by decide) ?_
            exact kw_wk (hk1 0 σ) ⟨Or.inr rfl, Or.inr rfl, Or.inr rfl, trivial⟩
          · exact kw_wk (hk11 () σ) ⟨Or.inr rfl, Or.inr rfl, Or.inr rfl, trivial⟩
/-! Md_number -/
def rm_Md_number : Room := { frames := 1, cells := 0, slots := 0, locals := 21 }
def F_Md_number (n : Nat) (t : Nat) (a0 : Int32) (σ : Mm) : Option (Int64 × Mm) :=
kf_c2 (F_Md_at n t a0 σ) fun x1 σ2 =>
kf_c2 (F_Md_at n t (a0 + 1) σ2) fun x3 σ4 =>
kf_c2 (F_Md_at n t (a0 + 2) σ4) fun x5 σ6 =>
kf_c2 (F_Md_at n t (a0 + 3) σ6) fun x7 σ8 =>
some ((((x1.toInt64 <<< ((24 : Int32).toInt64 &&& 63)) + ((x3 <<< (16 &&& 31)).toInt64)) + ((x5 <<< (8 &&& 31)).toInt64)) + x7.toInt64, σ8)
theorem d_Md_number_0 : decode prog_14_method_12_code 0 = .ok (.aload_n 0, 1) := by decide +kernel
theorem d_Md_number_1 : decode prog_14_method_12_code 1 = .ok (.iload_n 1, 1) := by decide +kernel
theorem d_Md_number_2 : decode prog_14_method_12_code 2 = .ok (.invokevirtual 84, 3) := by decide +kernel
theorem d_Md_number_5 : decode prog_14_method_12_code 5 = .ok (.i2l, 1) := by decide +kernel
theorem d_Md_number_6 : decode prog_14_method_12_code 6 = .ok (.bipush 24, 2) := by decide +kernel
theorem d_Md_number_8 : decode prog_14_method_12_code 8 = .ok (.lshl, 1) := by decide +kernel
theorem d_Md_number_9 : decode prog_14_method_12_code 9 = .ok (.aload_n 0, 1) := by decide +kernel
theorem d_Md_number_10 : decode prog_14_method_12_code 10 = .ok (.iload_n 1, 1) := by decide +kernel
theorem d_Md_number_11 : decode prog_14_method_12_code 11 = .ok (.iconst 1, 1) := by decide +kernel
theorem d_Md_number_12 : decode prog_14_method_12_code 12 = .ok (.iadd, 1) := by decide +kernel
theorem d_Md_number_13 : decode prog_14_method_12_code 13 = .ok (.invokevirtual 84, 3) := by decide +kernel
theorem d_Md_number_16 : decode prog_14_method_12_code 16 = .ok (.bipush 16, 2) := by decide +kernel
theorem d_Md_number_18 : decode prog_14_method_12_code 18 = .ok (.ishl, 1) := by decide +kernel
theorem d_Md_number_19 : decode prog_14_method_12_code 19 = .ok (.i2l, 1) := by decide +kernel
theorem d_Md_number_20 : decode prog_14_method_12_code 20 = .ok (.ladd, 1) := by decide +kernel
theorem d_Md_number_21 : decode prog_14_method_12_code 21 = .ok (.aload_n 0, 1) := by decide +kernel
theorem d_Md_number_22 : decode prog_14_method_12_code 22 = .ok (.iload_n 1, 1) := by decide +kernel
theorem d_Md_number_23 : decode prog_14_method_12_code 23 = .ok (.iconst 2, 1) := by decide +kernel
theorem d_Md_number_24 : decode prog_14_method_12_code 24 = .ok (.iadd, 1) := by decide +kernel
theorem d_Md_number_25 : decode prog_14_method_12_code 25 = .ok (.invokevirtual 84, 3) := by decide +kernel
theorem d_Md_number_28 : decode prog_14_method_12_code 28 = .ok (.bipush 8, 2) := by decide +kernel
theorem d_Md_number_30 : decode prog_14_method_12_code 30 = .ok (.ishl, 1) := by decide +kernel
theorem d_Md_number_31 : decode prog_14_method_12_code 31 = .ok (.i2l, 1) := by decide +kernel
theorem d_Md_number_32 : decode prog_14_method_12_code 32 = .ok (.ladd, 1) := by decide +kernel
theorem d_Md_number_33 : decode prog_14_method_12_code 33 = .ok (.aload_n 0, 1) := by decide +kernel
theorem d_Md_number_34 : decode prog_14_method_12_code 34 = .ok (.iload_n 1, 1) := by decide +kernel
theorem d_Md_number_35 : decode prog_14_method_12_code 35 = .ok (.iconst 3, 1) := by decide +kernel
theorem d_Md_number_36 : decode prog_14_method_12_code 36 = .ok (.iadd, 1) := by decide +kernel
theorem d_Md_number_37 : decode prog_14_method_12_code 37 = .ok (.invokevirtual 84, 3) := by decide +kernel
theorem d_Md_number_40 : decode prog_14_method_12_code 40 = .ok (.i2l, 1) := by decide +kernel
theorem d_Md_number_41 : decode prog_14_method_12_code 41 = .ok (.ladd, 1) := by decide +kernel
theorem d_Md_number_42 : decode prog_14_method_12_code 42 = .ok (.lreturn, 1) := by decide +kernel
set_option maxRecDepth 100000 in
set_option maxHeartbeats 4000000 in
theorem c_Md_number {l0 : Launch} (hl : l0.stackTraces = false) (n : Nat) (ids : List Nat) {t : Nat} (ht : mm_ok ids t 1 12) (a0 : Int32) (σ : Mm) : kw_C l0 y_Md_number (Cond.code y_Md_number prog_14_method_12_code 2 (some .long) :: kw_Ts) rm_Md_number kw_ol ids [] [.ref t, .int a0] σ (F_Md_number n t a0 σ) := by
  refine kw_start (L0 := [some (.ref t), some (.int a0)]) hl (by decide +kernel) (Nat.le_of_ble_eq_true rfl) rfl (fun Γ ad C Ce => ?_)
  unfold F_Md_number
  refine kw_aload_n C d_Md_number_0 rfl ?_
  refine kw_iload_n C d_Md_number_1 rfl ?_
  refine kw_callVi (cl' := 0) (sl' := 0) (As := [.int a0]) C (c_Md_at hl n ids ht a0 σ) mi_Md_84 v_Md_at ⟨_, _, rfl⟩ ht ⟨Nat.le_of_ble_eq_true rfl, Nat.le_of_ble_eq_true rfl⟩ (Nat.le_of_ble_eq_true rfl) ⟨Nat.le_of_ble_eq_true rfl, Nat.le_of_ble_eq_true rfl⟩ ⟨rfl, rfl⟩ rfl d_Md_number_2 (fun x1 σ2 => ?_)
  refine kw_i2l C d_Md_number_5 ?_
  refine kw_bipush (v := 24) C d_Md_number_6 (by decide) ?_
  refine kw_lshl C d_Md_number_8 ?_
  refine kw_aload_n C d_Md_number_9 rfl ?_
  refine kw_iload_n C d_Md_number_10 rfl ?_
  refine kw_iconst (v := 1) C d_Md_number_11 (by decide) ?_
  refine kw_iadd C d_Md_number_12 ?_
  refine kw_callVi (cl' := 0) (sl' := 0) (As := [.int (a0 + 1)]) C (c_Md_at hl n ids ht (a0 + 1) σ2) mi_Md_84 v_Md_at ⟨_, _, rfl⟩ ht ⟨Nat.le_of_ble_eq_true rfl, Nat.le_of_ble_eq_true rfl⟩ (Nat.le_of_ble_eq_true rfl) ⟨Nat.le_of_ble_eq_true rfl, Nat.le_of_ble_eq_true rfl⟩ ⟨rfl, rfl⟩ rfl d_Md_number_13 (fun x3 σ4 => ?_)
  refine kw_bipush (v := 16) C d_Md_number_16 (by decide) ?_
  refine kw_ishl C d_Md_number_18 ?_
  refine kw_i2l C d_Md_number_19 ?_
  refine kw_ladd C d_Md_number_20 ?_
  refine kw_aload_n C d_Md_number_21 rfl ?_
  refine kw_iload_n C d_Md_number_22 rfl ?_
  refine kw_iconst (v := 2) C d_Md_number_23 (by decide) ?_
  refine kw_iadd C d_Md_number_24 ?_
  refine kw_callVi (cl' := 0) (sl' := 0) (As := [.int (a0 + 2)]) C (c_Md_at hl n ids ht (a0 + 2) σ4) mi_Md_84 v_Md_at ⟨_, _, rfl⟩ ht ⟨Nat.le_of_ble_eq_true rfl, Nat.le_of_ble_eq_true rfl⟩ (Nat.le_of_ble_eq_true rfl) ⟨Nat.le_of_ble_eq_true rfl, Nat.le_of_ble_eq_true rfl⟩ ⟨rfl, rfl⟩ rfl d_Md_number_25 (fun x5 σ6 => ?_)
  refine kw_bipush (v := 8) C d_Md_number_28 (by decide) ?_
  refine kw_ishl C d_Md_number_30 ?_
  refine kw_i2l C d_Md_number_31 ?_
  refine kw_ladd C d_Md_number_32 ?_
  refine kw_aload_n C d_Md_number_33 rfl ?_
  refine kw_iload_n C d_Md_number_34 rfl ?_
  refine kw_iconst (v := 3) C d_Md_number_35 (by decide) ?_
  refine kw_iadd C d_Md_number_36 ?_
  refine kw_callVi (cl' := 0) (sl' := 0) (As := [.int (a0 + 3)]) C (c_Md_at hl n ids ht (a0 + 3) σ6) mi_Md_84 v_Md_at ⟨_, _, rfl⟩ ht ⟨Nat.le_of_ble_eq_true rfl, Nat.le_of_ble_eq_true rfl⟩ (Nat.le_of_ble_eq_true rfl) ⟨Nat.le_of_ble_eq_true rfl, Nat.le_of_ble_eq_true rfl⟩ ⟨rfl, rfl⟩ rfl d_Md_number_37 (fun x7 σ8 => ?_)
  refine kw_i2l C d_Md_number_40 ?_
  refine kw_ladd C d_Md_number_41 ?_
  exact kw_lret C Ce rfl (by simp) (fun _ _ => rfl) (Nat.le_of_ble_eq_true rfl) (Nat.le_of_ble_eq_true rfl) rfl d_Md_number_42
/-! Md_flaw -/
def rm_Md_flaw : Room := { frames := 0, cells := 0, slots := 0, locals := 0 }
def F_Md_flaw (n : Nat) (t : Nat) (a0 : Int32) (a1 : Int32) (σ : Mm) : Option (Int32 × Mm) :=
kf_let (pS σ (64 * t + 3) a0) fun σ1 =>
kf_let (pS σ1 (64 * t + 4) a1) fun σ2 =>
kf_z 0 (some (0, σ2))
theorem d_Md_flaw_0 : decode prog_14_method_15_code 0 = .ok (.aload_n 0, 1) := by decide +kernel
theorem d_Md_flaw_1 : decode prog_14_method_15_code 1 = .ok (.iload_n 1, 1) := by decide +kernel
theorem d_Md_flaw_2 : decode prog_14_method_15_code 2 = .ok (.putfield 91, 3) := by decide +kernel
theorem d_Md_flaw_5 : decode prog_14_method_15_code 5 = .ok (.aload_n 0, 1) := by decide +kernel
theorem d_Md_flaw_6 : decode prog_14_method_15_code 6 = .ok (.iload_n 2, 1) := by decide +kernel
theorem d_Md_flaw_7 : decode prog_14_method_15_code 7 = .ok (.putfield 94, 3) := by decide +kernel
theorem d_Md_flaw_10 : decode prog_14_method_15_code 10 = .ok (.iconst 0, 1) := by decide +kernel
theorem d_Md_flaw_11 : decode prog_14_method_15_code 11 = .ok (.ireturn, 1) := by decide +kernel
set_option maxRecDepth 100000 in
set_option maxHeartbeats 4000000 in
theorem c_Md_flaw {l0 : Launch} (hl : l0.stackTraces = false) (n : Nat) (ids : List Nat) {t : Nat} (ht : mm_ok ids t 1 12) (a0 : Int32) (a1 : Int32) (σ : Mm) : kw_C l0 y_Md_flaw (Cond.code y_Md_flaw prog_14_method_15_code 3 (some .boolean) :: kw_Ts) rm_Md_flaw kw_oi ids [] [.ref t, .int a0, .int a1] σ (F_Md_flaw n t a0 a1 σ) := by
  refine kw_start (L0 := [some (.ref t), some (.int a0), some (.int a1)]) hl (by decide +kernel) (Nat.le_of_ble_eq_true rfl) rfl (fun Γ ad C Ce => ?_)
  unfold F_Md_flaw
  refine kw_aload_n C d_Md_flaw_0 rfl ?_
  refine kw_iload_n C d_Md_flaw_1 rfl ?_
  refine kw_putI C fi_Md_91 rfl ht d_Md_flaw_2 (fun σ1 => ?_)
  refine kw_aload_n C d_Md_flaw_5 rfl ?_
  refine kw_iload_n C d_Md_flaw_6 rfl ?_
  refine kw_putI C fi_Md_94 rfl ht d_Md_flaw_7 (fun σ2 => ?_)
  refine kw_iconst (v := 0) C d_Md_flaw_10 (by decide) ?_
  exact kw_zret C Ce rfl (by simp) (fun _ _ => rfl) (Nat.le_of_ble_eq_true rfl) (Nat.le_of_ble_eq_true rfl) rfl d_Md_flaw_11
/-! Md_channels -/
def rm_Md_channels : Room := { frames := 0, cells := 0, slots := 0, locals := 0 }
def F_Md_channels (n : Nat) (a0 : Int32) (σ : Mm) : Option (Int32 × Mm) :=
kf_j (α := Int32) (fun x2 σ3 =>
some (x2, σ3)) fun k1 =>
if a0 = 2 then (
k1 3 σ) else (
if a0 = 4 then (
k1 2 σ) else (
if a0 = 6 then (
k1 4 σ) else (
k1 1 σ)))
theorem d_Md_channels_0 : decode prog_14_method_16_code 0 = .ok (.iload_n 0, 1) := by decide +kernel
theorem d_Md_channels_1 : decode prog_14_method_16_code 1 = .ok (.iconst 2, 1) := by decide +kernel
theorem d_Md_channels_2 : decode prog_14_method_16_code 2 = .ok (.if_icmp .ne 7, 3) := by decide +kernel
theorem d_Md_channels_5 : decode prog_14_method_16_code 5 = .ok (.iconst 3, 1) := by decide +kernel
theorem d_Md_channels_6 : decode prog_14_method_16_code 6 = .ok (.goto 23, 3) := by decide +kernel
theorem d_Md_channels_9 : decode prog_14_method_16_code 9 = .ok (.iload_n 0, 1) := by decide +kernel
theorem d_Md_channels_10 : decode prog_14_method_16_code 10 = .ok (.iconst 4, 1) := by decide +kernel
theorem d_Md_channels_11 : decode prog_14_method_16_code 11 = .ok (.if_icmp .ne 7, 3) := by decide +kernel
theorem d_Md_channels_14 : decode prog_14_method_16_code 14 = .ok (.iconst 2, 1) := by decide +kernel
theorem d_Md_channels_15 : decode prog_14_method_16_code 15 = .ok (.goto 14, 3) := by decide +kernel
theorem d_Md_channels_18 : decode prog_14_method_16_code 18 = .ok (.iload_n 0, 1) := by decide +kernel
theorem d_Md_channels_19 : decode prog_14_method_16_code 19 = .ok (.bipush 6, 2) := by decide +kernel
theorem d_Md_channels_21 : decode prog_14_method_16_code 21 = .ok (.if_icmp .ne 7, 3) := by decide +kernel
theorem d_Md_channels_24 : decode prog_14_method_16_code 24 = .ok (.iconst 4, 1) := by decide +kernel
theorem d_Md_channels_25 : decode prog_14_method_16_code 25 = .ok (.goto 4, 3) := by decide +kernel
theorem d_Md_channels_28 : decode prog_14_method_16_code 28 = .ok (.iconst 1, 1) := by decide +kernel
theorem d_Md_channels_29 : decode prog_14_method_16_code 29 = .ok (.ireturn, 1) := by decide +kernel
set_option maxRecDepth 100000 in
set_option maxHeartbeats 4000000 in
theorem c_Md_channels {l0 : Launch} (hl : l0.stackTraces = false) (n : Nat) (ids : List Nat)  (a0 : Int32) (σ : Mm) : kw_C l0 y_Md_channels (Cond.code y_Md_channels prog_14_method_16_code 1 (some .int) :: kw_Ts) rm_Md_channels kw_oi ids [] [.int a0] σ (F_Md_channels n a0 σ) := by
  refine kw_start (L0 := [some (.int a0)]) hl (by decide +kernel) (Nat.le_of_ble_eq_true rfl) rfl (fun Γ ad C Ce => ?_)
  unfold F_Md_channels
  refine kw_iload_n C d_Md_channels_0 rfl ?_
  refine kw_iconst (v := 2) C d_Md_channels_1 (by decide) ?_
  refine kw_j (α := Int32) (pcj := 29) (Lj := fun x2 => [none]) (stj := fun x2 => [.int x2]) (fun x2 σ3 => ?_) (fun k1 hk1 => ?_)
  · exact kw_iret C Ce rfl (by simp) (fun _ _ => rfl) (Nat.le_of_ble_eq_true rfl) (Nat.le_of_ble_eq_true rfl) rfl d_Md_channels_29
  · refine kw_icmp_ne (tgt := 9) C d_Md_channels_2 (by decide) ?_ ?_
    · refine kw_iload_n C d_Md_channels_9 rfl ?_
      refine kw_iconst (v := 4) C d_Md_channels_10 (by decide) ?_
      refine kw_icmp_ne (tgt := 18) C d_Md_channels_11 (by decide) ?_ ?_
      · refine kw_iload_n C d_Md_channels_18 rfl ?_
        refine kw_bipush (v := 6) C d_Md_channels_19 (by decide) ?_
        refine kw_icmp_ne (tgt := 28) C d_Md_channels_21 (by decide) ?_ ?_
        · refine kw_iconst (v := 1) C d_Md_channels_28 (by decide) ?_
          exact kw_wk (hk1 1 σ) ⟨Or.inl rfl, trivial⟩
        · refine kw_iconst (v := 4) C d_Md_channels_24 (by decide) ?_
          refine kw_goto (tgt := 29) C d_Md_channels_25 (by decide) ?_
          exact kw_wk (hk1 4 σ) ⟨Or.inl rfl, trivial⟩
      · refine kw_iconst (v := 2) C d_Md_channels_14 (by decide) ?_
        refine kw_goto (tgt := 29) C d_Md_channels_15 (by decide) ?_
        exact kw_wk (hk1 2 σ) ⟨Or.inl rfl, trivial⟩
    · refine kw_iconst (v := 3) C d_Md_channels_5 (by decide) ?_
      refine kw_goto (tgt := 29) C d_Md_channels_6 (by decide) ?_
      exact kw_wk (hk1 3 σ) ⟨Or.inl rfl, trivial⟩
/-! Md_mayBe -/
def rm_Md_mayBe : Room := { frames := 0, cells := 0, slots := 0, locals := 0 }
def F_Md_mayBe (n : Nat) (a0 : Int32) (a1 : Int32) (σ : Mm) : Option (Int32 × Mm) :=
kf_j (α := Int32) (fun x2 σ3 =>
kf_j (α := Int32) (fun x5 σ6 =>
kf_z x5 (some (x5, σ6))) fun k4 =>
kf_j (α := Unit) (fun x8 σ9 =>
k4 1 σ9) fun k7 =>
kf_j (α := Unit) (fun x11 σ12 =>
kf_j (α := Unit) (fun x14 σ15 =>
kf_j (α := Unit) (fun x17 σ18 =>
k4 0 σ18) fun k16 =>
kf_j (α := Unit) (fun x20 σ21 =>
if a1 = 8 then (
k7 () σ21) else (
if a1 = 16 then (
k7 () σ21) else (
k16 () σ21))) fun k19 =>
if a0 = 2 then (
k19 () σ15) else (
if a0 = 4 then (
k19 () σ15) else (
if a0 = 6 then (
k19 () σ15) else (
k16 () σ15)))) fun k13 =>
if a0 = 3 then (
if x2 = 0 then (
if a1 = 8 then (
k7 () σ12) else (
k13 () σ12)) else (
k7 () σ12)) else (
k13 () σ12)) fun k10 =>
if a0 = 0 then (
if x2 = 0 then (
if a1 = 8 then (
k7 () σ3) else (
if a1 = 16 then (
k7 () σ3) else (
k10 () σ3))) else (
k7 () σ3)) else (
k10 () σ3)) fun k1 =>
kf_j (α := Unit) (fun x23 σ24 =>
k1 1 σ24) fun k22 =>
if a1 = 1 then (
k22 () σ) else (
if a1 = 2 then (
k22 () σ) else (
if a1 = 4 then (
k22 () σ) else (
k1 0 σ)))
theorem d_Md_mayBe_0 : decode prog_14_method_17_code 0 = .ok (.iload_n 1, 1) := by decide +kernel
theorem d_Md_mayBe_1 : decode prog_14_method_17_code 1 = .ok (.iconst 1, 1) := by decide +kernel
theorem d_Md_mayBe_2 : decode prog_14_method_17_code 2 = .ok (.if_icmp .eq 13, 3) := by decide +kernel
theorem d_Md_mayBe_5 : decode prog_14_method_17_code 5 = .ok (.iload_n 1, 1) := by decide +kernel
theorem d_Md_mayBe_6 : decode prog_14_method_17_code 6 = .ok (.iconst 2, 1) := by decide +kernel
theorem d_Md_mayBe_7 : decode prog_14_method_17_code 7 = .ok (.if_icmp .eq 8, 3) := by decide +kernel
theorem d_Md_mayBe_10 : decode prog_14_method_17_code 10 = .ok (.iload_n 1, 1) := by decide +kernel
theorem d_Md_mayBe_11 : decode prog_14_method_17_code 11 = .ok (.iconst 4, 1) := by decide +kernel
theorem d_Md_mayBe_12 : decode prog_14_method_17_code 12 = .ok (.if_icmp .ne 7, 3) := by decide +kernel
theorem d_Md_mayBe_15 : decode prog_14_method_17_code 15 = .ok (.iconst 1, 1) := by decide +kernel
theorem d_Md_mayBe_16 : decode prog_14_method_17_code 16 = .ok (.goto 4, 3) := by decide +kernel
theorem d_Md_mayBe_19 : decode prog_14_method_17_code 19 = .ok (.iconst 0, 1) := by decide +kernel
theorem d_Md_mayBe_20 : decode prog_14_method_17_code 20 = .ok (.istore_n 2, 1) := by decide +kernel
theorem d_Md_mayBe_21 : decode prog_14_method_17_code 21 = .ok (.iload_n 0, 1) := by decide +kernel
theorem d_Md_mayBe_22 : decode prog_14_method_17_code 22 = .ok (.ifCond .ne 19, 3) := by decide +kernel
theorem d_Md_mayBe_25 : decode prog_14_method_17_code 25 = .ok (.iload_n 2, 1) := by decide +kernel
theorem d_Md_mayBe_26 : decode prog_14_method_17_code 26 = .ok (.ifCond .ne 58, 3) := by decide +kernel
theorem d_Md_mayBe_29 : decode prog_14_method_17_code 29 = .ok (.iload_n 1, 1) := by decide +kernel
theorem d_Md_mayBe_30 : decode prog_14_method_17_code 30 = .ok (.bipush 8, 2) := by decide +kernel
theorem d_Md_mayBe_32 : decode prog_14_method_17_code 32 = .ok (.if_icmp .eq 52, 3) := by decide +kernel
theorem d_Md_mayBe_35 : decode prog_14_method_17_code 35 = .ok (.iload_n 1, 1) := by decide +kernel
theorem d_Md_mayBe_36 : decode prog_14_method_17_code 36 = .ok (.bipush 16, 2) := by decide +kernel
theorem d_Md_mayBe_38 : decode prog_14_method_17_code 38 = .ok (.if_icmp .eq 46, 3) := by decide +kernel
theorem d_Md_mayBe_41 : decode prog_14_method_17_code 41 = .ok (.iload_n 0, 1) := by decide +kernel
theorem d_Md_mayBe_42 : decode prog_14_method_17_code 42 = .ok (.iconst 3, 1) := by decide +kernel
theorem d_Md_mayBe_43 : decode prog_14_method_17_code 43 = .ok (.if_icmp .ne 13, 3) := by decide +kernel
theorem d_Md_mayBe_46 : decode prog_14_method_17_code 46 = .ok (.iload_n 2, 1) := by decide +kernel
theorem d_Md_mayBe_47 : decode prog_14_method_17_code 47 = .ok (.ifCond .ne 37, 3) := by decide +kernel
theorem d_Md_mayBe_50 : decode prog_14_method_17_code 50 = .ok (.iload_n 1, 1) := by decide +kernel
theorem d_Md_mayBe_51 : decode prog_14_method_17_code 51 = .ok (.bipush 8, 2) := by decide +kernel
theorem d_Md_mayBe_53 : decode prog_14_method_17_code 53 = .ok (.if_icmp .eq 31, 3) := by decide +kernel
theorem d_Md_mayBe_56 : decode prog_14_method_17_code 56 = .ok (.iload_n 0, 1) := by decide +kernel
theorem d_Md_mayBe_57 : decode prog_14_method_17_code 57 = .ok (.iconst 2, 1) := by decide +kernel
theorem d_Md_mayBe_58 : decode prog_14_method_17_code 58 = .ok (.if_icmp .eq 14, 3) := by decide +kernel
theorem d_Md_mayBe_61 : decode prog_14_method_17_code 61 = .ok (.iload_n 0, 1) := by decide +kernel
theorem d_Md_mayBe_62 : decode prog_14_method_17_code 62 = .ok (.iconst 4, 1) := by decide +kernel
theorem d_Md_mayBe_63 : decode prog_14_method_17_code 63 = .ok (.if_icmp .eq 9, 3) := by decide +kernel
theorem d_Md_mayBe_66 : decode prog_14_method_17_code 66 = .ok (.iload_n 0, 1) := by decide +kernel
theorem d_Md_mayBe_67 : decode prog_14_method_17_code 67 = .ok (.bipush 6, 2) := by decide +kernel
theorem d_Md_mayBe_69 : decode prog_14_method_17_code 69 = .ok (.if_icmp .ne 19, 3) := by decide +kernel
theorem d_Md_mayBe_72 : decode prog_14_method_17_code 72 = .ok (.iload_n 1, 1) := by decide +kernel
theorem d_Md_mayBe_73 : decode prog_14_method_17_code 73 = .ok (.bipush 8, 2) := by decide +kernel
theorem d_Md_mayBe_75 : decode prog_14_method_17_code 75 = .ok (.if_icmp .eq 9, 3) := by decide +kernel
theorem d_Md_mayBe_78 : decode prog_14_method_17_code 78 = .ok (.iload_n 1, 1) := by decide +kernel
theorem d_Md_mayBe_79 : decode prog_14_method_17_code 79 = .ok (.bipush 16, 2) := by decide +kernel
theorem d_Md_mayBe_81 : decode prog_14_method_17_code 81 = .ok (.if_icmp .ne 7, 3) := by decide +kernel
theorem d_Md_mayBe_84 : decode prog_14_method_17_code 84 = .ok (.iconst 1, 1) := by decide +kernel
theorem d_Md_mayBe_85 : decode prog_14_method_17_code 85 = .ok (.goto 4, 3) := by decide +kernel
theorem d_Md_mayBe_88 : decode prog_14_method_17_code 88 = .ok (.iconst 0, 1) := by decide +kernel
theorem d_Md_mayBe_89 : decode prog_14_method_17_code 89 = .ok (.ireturn, 1) := by decide +kernel
set_option maxRecDepth 100000 in
set_option maxHeartbeats 4000000 in
theorem c_Md_mayBe {l0 : Launch} (hl : l0.stackTraces = false) (n : Nat) (ids : List Nat)  (a0 : Int32) (a1 : Int32) (σ : Mm) : kw_C l0 y_Md_mayBe (Cond.code y_Md_mayBe prog_14_method_17_code 3 (some .boolean) :: kw_Ts) rm_Md_mayBe kw_oi ids [] [.int a0, .int a1] σ (F_Md_mayBe n a0 a1 σ) := by
  refine kw_start (L0 := [some (.int a0), some (.int a1), none]) hl (by decide +kernel) (Nat.le_of_ble_eq_true rfl) rfl (fun Γ ad C Ce => ?_)
  unfold F_Md_mayBe
  refine kw_iload_n C d_Md_mayBe_0 rfl ?_
  refine kw_iconst (v := 1) C d_Md_mayBe_1 (by decide) ?_
  refine kw_j (α := Int32) (pcj := 20) (Lj := fun x2 => [some (.int a0), some (.int a1), none]) (stj := fun x2 => [.int x2]) (fun x2 σ3 => ?_) (fun k1 hk1 => ?_)
  · refine kw_istore_n (L' := [some (.int a0), some (.int a1), some (.int x2)]) C d_Md_mayBe_20 (by decide) rfl ?_
    refine kw_iload_n C d_Md_mayBe_21 rfl ?_
    refine kw_j (α := Int32) (pcj := 89) (Lj := fun x5 => [none, none, none]) (stj := fun x5 => [.int x5]) (fun x5 σ6 => ?_) (fun k4 hk4 => ?_)
    · exact kw_zret C Ce rfl (by simp) (fun _ _ => rfl) (Nat.le_of_ble_eq_true rfl) (Nat.le_of_ble_eq_true rfl) rfl d_Md_mayBe_89
    · refine kw_j (α := Unit) (pcj := 84) (Lj := fun x8 => [none, none, none]) (stj := fun x8 => []) (fun x8 σ9 => ?_) (fun k7 hk7 => ?_)
      · refine kw_iconst (v := 1) C d_Md_mayBe_84 (by decide) ?_
        refine kw_goto (tgt := 89) C d_Md_mayBe_85 (by decide) ?_
        exact kw_wk (hk4 1 σ9) ⟨Or.inl rfl, Or.inl rfl, Or.inl rfl, trivial⟩
      · refine kw_j (α := Unit) (pcj := 41) (Lj := fun x11 => [some (.int a0), some (.int a1), some (.int x2)]) (stj := fun x11 => []) (fun x11 σ12 => ?_) (fun k10 hk10 => ?_)
        · refine kw_iload_n C d_Md_mayBe_41 rfl ?_
          refine kw_iconst (v := 3) C d_Md_mayBe_42 (by decide) ?_
          refine kw_j (α := Unit) (pcj := 56) (Lj := fun x14 => [some (.int a0), some (.int a1), none]) (stj := fun x14 => []) (fun x14 σ15 => ?_) (fun k13 hk13 => ?_)
          · refine kw_iload_n C d_Md_mayBe_56 rfl ?_
            refine kw_iconst (v := 2) C d_Md_mayBe_57 (by decide) ?_
            refine kw_j (α := Unit) (pcj := 88) (Lj := fun x17 => [none, none, none]) (stj := fun x17 => []) (fun x17 σ18 => ?_) (fun k16 hk16 => ?_)
            · refine kw_iconst (v := 0) C d_Md_mayBe_88 (by decide) ?_
              exact kw_wk (hk4 0 σ18) ⟨Or.inl rfl, Or.inl rfl, Or.inl rfl, trivial⟩
            · refine kw_j (α := Unit) (pcj := 72) (Lj := fun x20 => [none, some (.int a1), none]) (stj := fun x20 => []) (fun x20 σ21 => ?_) (fun k19 hk19 => ?_)
              · refine kw_iload_n C d_Md_mayBe_72 rfl ?_
                refine kw_bipush (v := 8) C d_Md_mayBe_73 (by decide) ?_
                refine kw_icmp_eq (tgt := 84) C d_Md_mayBe_75 (by decide) ?_ ?_
                · exact kw_wk (hk7 () σ21) ⟨Or.inl rfl, Or.inl rfl, Or.inl rfl, trivial⟩
                · refine kw_iload_n C d_Md_mayBe_78 rfl ?_
                  refine kw_bipush (v := 16) C d_Md_mayBe_79 (by decide) ?_
                  refine kw_icmp_ne (tgt := 88) C d_Md_mayBe_81 (by decide) ?_ ?_
                  · exact kw_wk (hk16 () σ21) ⟨Or.inl rfl, Or.inl rfl, Or.inl rfl, trivial⟩
                  · exact kw_wk (hk7 () σ21) ⟨Or.inl rfl, Or.inl rfl, Or.inl rfl, trivial⟩
              · refine kw_icmp_eq (tgt := 72) C d_Md_mayBe_58 (by decide) ?_ ?_
                · exact kw_wk (hk19 () σ15) ⟨Or.inl rfl, Or.inr rfl, Or.inl rfl, trivial⟩
                · refine kw_iload_n C d_Md_mayBe_61 rfl ?_
                  refine kw_iconst (v := 4) C d_Md_mayBe_62 (by decide) ?_
                  refine kw_icmp_eq (tgt := 72) C d_Md_mayBe_63 (by decide) ?_ ?_
                  · exact kw_wk (hk19 () σ15) ⟨Or.inl rfl, Or.inr rfl, Or.inl rfl, trivial⟩
                  · refine kw_iload_n C d_Md_mayBe_66 rfl ?_
                    refine kw_bipush (v := 6) C d_Md_mayBe_67 (by decide) ?_
                    refine kw_icmp_ne (tgt := 88) C d_Md_mayBe_69 (by decide) ?_ ?_
                    · exact kw_wk (hk16 () σ15) ⟨Or.inl rfl, Or.inl rfl, Or.inl rfl, trivial⟩
                    · exact kw_wk (hk19 () σ15) ⟨Or.inl rfl, Or.inr rfl, Or.inl rfl, trivial⟩
          · refine kw_icmp_ne (tgt := 56) C d_Md_mayBe_43 (by decide) ?_ ?_
            · exact kw_wk (hk13 () σ12) ⟨Or.inr rfl, Or.inr rfl, Or.inl rfl, trivial⟩
            · refine kw_iload_n C d_Md_mayBe_46 rfl ?_
              refine kw_if_ne (tgt := 84) C d_Md_mayBe_47 (by decide) ?_ ?_
              · exact kw_wk (hk7 () σ12) ⟨Or.inl rfl, Or.inl rfl, Or.inl rfl, trivial⟩
              · refine kw_iload_n C d_Md_mayBe_50 rfl ?_
                refine kw_bipush (v := 8) C d_Md_mayBe_51 (by decide) ?_
                refine kw_icmp_eq (tgt := 84) C d_Md_mayBe_53 (by decide) ?_ ?_
                · exact kw_wk (hk7 () σ12) ⟨Or.inl rfl, Or.inl rfl, Or.inl rfl, trivial⟩
                · exact kw_wk (hk13 () σ12) ⟨Or.inr rfl, Or.inr rfl, Or.inl rfl, trivial⟩
        · refine kw_if_ne (tgt := 41) C d_Md_mayBe_22 (by decide) ?_ ?_
          · exact kw_wk (hk10 () σ3) ⟨Or.inr rfl, Or.inr rfl, Or.inr rfl, trivial⟩
          · refine kw_iload_n C d_Md_mayBe_25 rfl ?_
            refine kw_if_ne (tgt := 84) C d_Md_mayBe_26 (by decide) ?_ ?_
            · exact kw_wk (hk7 () σ3) ⟨Or.inl rfl, Or.inl rfl, Or.inl rfl, trivial⟩
            · refine kw_iload_n C d_Md_mayBe_29 rfl ?_
              refine kw_bipush (v := 8) C d_Md_mayBe_30 (by decide) ?_
              refine kw_icmp_eq (tgt := 84) C d_Md_mayBe_32 (by decide) ?_ ?_
              · exact kw_wk (hk7 () σ3) ⟨Or.inl rfl, Or.inl rfl, Or.inl rfl, trivial⟩
              · refine kw_iload_n C d_Md_mayBe_35 rfl ?_
                refine kw_bipush (v := 16) C d_Md_mayBe_36 (by decide) ?_
                refine kw_icmp_eq (tgt := 84) C d_Md_mayBe_38 (by decide) ?_ ?_
                · exact kw_wk (hk7 () σ3) ⟨Or.inl rfl, Or.inl rfl, Or.inl rfl, trivial⟩
                · exact kw_wk (hk10 () σ3) ⟨Or.inr rfl, Or.inr rfl, Or.inr rfl, trivial⟩
  · refine kw_j (α := Unit) (pcj := 15) (Lj := fun x23 => [some (.int a0), some (.int a1), none]) (stj := fun x23 => []) (fun x23 σ24 => ?_) (fun k22 hk22 => ?_)
    · refine kw_iconst (v := 1) C d_Md_mayBe_15 (by decide) ?_
      refine kw_goto (tgt := 20) C d_Md_mayBe_16 (by decide) ?_
      exact kw_wk (hk1 1 σ24) ⟨Or.inr rfl, Or.inr rfl, Or.inl rfl, trivial⟩
    · refine kw_icmp_eq (tgt := 15) C d_Md_mayBe_2 (by decide) ?_ ?_
      · exact kw_wk (hk22 () σ) ⟨Or.inr rfl, Or.inr rfl, Or.inl rfl, trivial⟩
      · refine kw_iload_n C d_Md_mayBe_5 rfl ?_
        refine kw_iconst (v := 2) C d_Md_mayBe_6 (by decide) ?_
        refine kw_icmp_eq (tgt := 15) C d_Md_mayBe_7 (by decide) ?_ ?_
        · exact kw_wk (hk22 () σ) ⟨Or.inr rfl, Or.inr rfl, Or.inl rfl, trivial⟩
        · refine kw_iload_n C d_Md_mayBe_10 rfl ?_
          refine kw_iconst (v := 4) C d_Md_mayBe_11 (by decide) ?_
          refine kw_icmp_ne (tgt := 19) C d_Md_mayBe_12 (by decide) ?_ ?_
          · refine kw_iconst (v := 0) C d_Md_mayBe_19 (by decide) ?_
            exact kw_wk (hk1 0 σ) ⟨Or.inr rfl, Or.inr rfl, Or.inl rfl, trivial⟩
          · exact kw_wk (hk22 () σ) ⟨Or.inr rfl, Or.inr rfl, Or.inl rfl, trivial⟩
/-! Md_passX -/
def rm_Md_passX : Room := { frames := 0, cells := 0, slots := 0, locals := 0 }
def F_Md_passX (n : Nat) (a0 : Int32) (σ : Mm) : Option (Int32 × Mm) :=
kf_j (α := Int32) (fun x2 σ3 =>
some (x2, σ3)) fun k1 =>
if a0 = 1 then (
k1 4 σ) else (
if a0 = 3 then (
k1 2 σ) else (
if a0 = 5 then (
k1 1 σ) else (
k1 0 σ)))
theorem d_Md_passX_0 : decode prog_14_method_18_code 0 = .ok (.iload_n 0, 1) := by decide +kernel
theorem d_Md_passX_1 : decode prog_14_method_18_code 1 = .ok (.iconst 1, 1) := by decide +kernel
theorem d_Md_passX_2 : decode prog_14_method_18_code 2 = .ok (.if_icmp .ne 7, 3) := by decide +kernel
theorem d_Md_passX_5 : decode prog_14_method_18_code 5 = .ok (.iconst 4, 1) := by decide +kernel
theorem d_Md_passX_6 : decode prog_14_method_18_code 6 = .ok (.goto 22, 3) := by decide +kernel
theorem d_Md_passX_9 : decode prog_14_method_18_code 9 = .ok (.iload_n 0, 1) := by decide +kernel
theorem d_Md_passX_10 : decode prog_14_method_18_code 10 = .ok (.iconst 3, 1) := by decide +kernel
theorem d_Md_passX_11 : decode prog_14_method_18_code 11 = .ok (.if_icmp .ne 7, 3) := by decide +kernel
theorem d_Md_passX_14 : decode prog_14_method_18_code 14 = .ok (.iconst 2, 1) := by decide +kernel
theorem d_Md_passX_15 : decode prog_14_method_18_code 15 = .ok (.goto 13, 3) := by decide +kernel
theorem d_Md_passX_18 : decode prog_14_method_18_code 18 = .ok (.iload_n 0, 1) := by decide +kernel
theorem d_Md_passX_19 : decode prog_14_method_18_code 19 = .ok (.iconst 5, 1) := by decide +kernel
theorem d_Md_passX_20 : decode prog_14_method_18_code 20 = .ok (.if_icmp .ne 7, 3) := by decide +kernel
theorem d_Md_passX_23 : decode prog_14_method_18_code 23 = .ok (.iconst 1, 1) := by decide +kernel
theorem d_Md_passX_24 : decode prog_14_method_18_code 24 = .ok (.goto 4, 3) := by decide +kernel
theorem d_Md_passX_27 : decode prog_14_method_18_code 27 = .ok (.iconst 0, 1) := by decide +kernel
theorem d_Md_passX_28 : decode prog_14_method_18_code 28 = .ok (.ireturn, 1) := by decide +kernel
set_option maxRecDepth 100000 in
set_option maxHeartbeats 4000000 in
theorem c_Md_passX {l0 : Launch} (hl : l0.stackTraces = false) (n : Nat) (ids : List Nat)  (a0 : Int32) (σ : Mm) : kw_C l0 y_Md_passX (Cond.code y_Md_passX prog_14_method_18_code 1 (some .int) :: kw_Ts) rm_Md_passX kw_oi ids [] [.int a0] σ (F_Md_passX n a0 σ) := by
  refine kw_start (L0 := [some (.int a0)]) hl (by decide +kernel) (Nat.le_of_ble_eq_true rfl) rfl (fun Γ ad C Ce => ?_)
  unfold F_Md_passX
  refine kw_iload_n C d_Md_passX_0 rfl ?_
  refine kw_iconst (v := 1) C d_Md_passX_1 (by decide) ?_
  refine kw_j (α := Int32) (pcj := 28) (Lj := fun x2 => [none]) (stj := fun x2 => [.int x2]) (fun x2 σ3 => ?_) (fun k1 hk1 => ?_)
  · exact kw_iret C Ce rfl (by simp) (fun _ _ => rfl) (Nat.le_of_ble_eq_true rfl) (Nat.le_of_ble_eq_true rfl) rfl d_Md_passX_28
  · refine kw_icmp_ne (tgt := 9) C d_Md_passX_2 (by decide) ?_ ?_
    · refine kw_iload_n C d_Md_passX_9 rfl ?_
      refine kw_iconst (v := 3) C d_Md_passX_10 (by decide) ?_
      refine kw_icmp_ne (tgt := 18) C d_Md_passX_11 (by decide) ?_ ?_
      · refine kw_iload_n C d_Md_passX_18 rfl ?_
        refine kw_iconst (v := 5) C d_Md_passX_19 (by decide) ?_
        refine kw_icmp_ne (tgt := 27) C d_Md_passX_20 (by decide) ?_ ?_
        · refine kw_iconst (v := 0) C d_Md_passX_27 (by decide) ?_
          exact kw_wk (hk1 0 σ) ⟨Or.inl rfl, trivial⟩
        · refine kw_iconst (v := 1) C d_Md_passX_23 (by decide) ?_
          refine kw_goto (tgt := 28) C d_Md_passX_24 (by decide) ?_
          exact kw_wk (hk1 1 σ) ⟨Or.inl rfl, trivial⟩
      · refine kw_iconst (v := 2) C d_Md_passX_14 (by decide) ?_
        refine kw_goto (tgt := 28) C d_Md_passX_15 (by decide) ?_
        exact kw_wk (hk1 2 σ) ⟨Or.inl rfl, trivial⟩
    · refine kw_iconst (v := 4) C d_Md_passX_5 (by decide) ?_
      refine kw_goto (tgt := 28) C d_Md_passX_6 (by decide) ?_
      exact kw_wk (hk1 4 σ) ⟨Or.inl rfl, trivial⟩
