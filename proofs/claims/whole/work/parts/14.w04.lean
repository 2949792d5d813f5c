theorem fi_Unpacker_44 : kw_fi "PictureFile$Unpacker" 44 6 2 true := ⟨mmR_6, mmT_6, 13, rfl, rfl, by decide, mmI_6, mmY_6, mmN_6, rfl, (kw_m1 (i := 191) (by decide +kernel) (by decide +kernel))⟩
theorem in_Rows : Cond.initialized "PictureFile$Rows" ∈ kw_Ts := (kw_m1 (i := 4) (by decide +kernel) (by decide +kernel))
theorem mi_Unpacker_159 : kw_mi "PictureFile$Unpacker" 159 y_Rows_sumOf prog_9_method_11_code 5 (some .int) 1 := ⟨(kw_m3 (i := 176) (by decide +kernel) (by decide +kernel)), w_Rows_sumOf, in_Rows, by decide +kernel, by decide +kernel, by decide +kernel⟩
theorem v_Rows_sumOf : Cond.instanceMethod y_Rows_sumOf ∈ kw_Ts ∧ Cond.selects y_Rows_sumOf.cls y_Rows_sumOf y_Rows_sumOf ∈ kw_Ts := ⟨(kw_m3 (i := 177) (by decide +kernel) (by decide +kernel)), (kw_m3 (i := 178) (by decide +kernel) (by decide +kernel))⟩
theorem mi_Unpacker_162 : kw_mi "PictureFile$Unpacker" 162 y_PackedBits_isAtEnd prog_5_method_4_code 1 (some .boolean) 0 := ⟨(kw_m3 (i := 181) (by decide +kernel) (by decide +kernel)), w_PackedBits_isAtEnd, in_PackedBits, by decide +kernel, by decide +kernel, by decide +kernel⟩
theorem v_PackedBits_isAtEnd : Cond.instanceMethod y_PackedBits_isAtEnd ∈ kw_Ts ∧ Cond.selects y_PackedBits_isAtEnd.cls y_PackedBits_isAtEnd y_PackedBits_isAtEnd ∈ kw_Ts := ⟨(kw_m3 (i := 182) (by decide +kernel) (by decide +kernel)), (kw_m3 (i := 183) (by decide +kernel) (by decide +kernel))⟩
def y_Unpacker_takeSum : MethodName := ⟨"PictureFile$Unpacker", "takeSum", "()Z"⟩
theorem w_Unpacker_takeSum : Cond.code y_Unpacker_takeSum prog_11_method_12_code 5 (some .boolean) ∈ kw_Ts := (kw_m3 (i := 175) (by decide +kernel) (by decide +kernel))
theorem mi_Unpacker_65 : kw_mi "PictureFile$Unpacker" 65 y_Unpacker_takeHead prog_11_method_3_code 4 (some .boolean) 0 := ⟨(kw_m3 (i := 94) (by decide +kernel) (by decide +kernel)), w_Unpacker_takeHead, in_Unpacker, by decide +kernel, by decide +kernel, by decide +kernel⟩
theorem v_Unpacker_takeHead : Cond.instanceMethod y_Unpacker_takeHead ∈ kw_Ts ∧ Cond.selects y_Unpacker_takeHead.cls y_Unpacker_takeHead y_Unpacker_takeHead ∈ kw_Ts := ⟨(kw_m3 (i := 96) (by decide +kernel) (by decide +kernel)), (kw_sel (i := 9) (by decide +kernel) (by decide +kernel))⟩
theorem mi_Unpacker_79 : kw_mi "PictureFile$Unpacker" 79 y_Unpacker_takeSum prog_11_method_12_code 5 (some .boolean) 0 := ⟨(kw_m3 (i := 172) (by decide +kernel) (by decide +kernel)), w_Unpacker_takeSum, in_Unpacker, by decide +kernel, by decide +kernel, by decide +kernel⟩
theorem v_Unpacker_takeSum : Cond.instanceMethod y_Unpacker_takeSum ∈ kw_Ts ∧ Cond.selects y_Unpacker_takeSum.cls y_Unpacker_takeSum y_Unpacker_takeSum ∈ kw_Ts := ⟨(kw_m3 (i := 174) (by decide +kernel) (by decide +kernel)), (kw_sel (i := 18) (by decide +kernel) (by decide +kernel))⟩
theorem mi_Unpacker_76 : kw_mi "PictureFile$Unpacker" 76 y_Unpacker_takeBlock prog_11_method_4_code 3 (some .boolean) 0 := ⟨(kw_m3 (i := 108) (by decide +kernel) (by decide +kernel)), w_Unpacker_takeBlock, in_Unpacker, by decide +kernel, by decide +kernel, by decide +kernel⟩
theorem v_Unpacker_takeBlock : Cond.instanceMethod y_Unpacker_takeBlock ∈ kw_Ts ∧ Cond.selects y_Unpacker_takeBlock.cls y_Unpacker_takeBlock y_Unpacker_takeBlock ∈ kw_Ts := ⟨(kw_m3 (i := 110) (by decide +kernel) (by decide +kernel)), (kw_sel (i := 10) (by decide +kernel) (by decide +kernel))⟩
def y_Unpacker_unpack : MethodName := ⟨"PictureFile$Unpacker", "unpack", "(I)Z"⟩
theorem w_Unpacker_unpack : Cond.code y_Unpacker_unpack prog_11_method_2_code 4 (some .boolean) ∈ kw_Ts := (kw_m3 (i := 93) (by decide +kernel) (by decide +kernel))
theorem ms_abs : Cond.static Lib.Math.abs.name ∈ kw_Ts := (kw_m3 (i := 198) (by decide +kernel) (by decide +kernel))
theorem mw_abs : Cond.code Lib.Math.abs.name Lib.Math.abs.code 1 (some .int) ∈ kw_Ts := (kw_m3 (i := 199) (by decide +kernel) (by decide +kernel))
theorem mth_Rows_82 : Cond.methodLink "PictureFile$Rows" 82 Lib.Math.abs.name ∈ kw_Ts := (kw_m3 (i := 197) (by decide +kernel) (by decide +kernel))
def y_Rows_nearest : MethodName := ⟨"PictureFile$Rows", "nearest", "(III)I"⟩
theorem w_Rows_nearest : Cond.code y_Rows_nearest prog_9_method_9_code 6 (some .int) ∈ kw_Ts := (kw_m3 (i := 196) (by decide +kernel) (by decide +kernel))
theorem fi_Rows_25 : kw_fi "PictureFile$Rows" 25 11 7 true := ⟨mmR_11, mmT_11, 10, rfl, rfl, by decide, mmI_11, mmY_11, mmN_11, rfl, (kw_m2 (i := 72) (by decide +kernel) (by decide +kernel))⟩
theorem fi_Rows_73 : kw_fi "PictureFile$Rows" 73 11 2 false := ⟨mmR_11, mmT_11, 10, rfl, rfl, by decide, mmI_11, mmY_11, mmN_11, rfl, (kw_m2 (i := 62) (by decide +kernel) (by decide +kernel))⟩
theorem fi_Rows_76 : kw_fi "PictureFile$Rows" 76 11 9 true := ⟨mmR_11, mmT_11, 10, rfl, rfl, by decide, mmI_11, mmY_11, mmN_11, rfl, (kw_m2 (i := 76) (by decide +kernel) (by decide +kernel))⟩
theorem mi_Rows_79 : kw_mi "PictureFile$Rows" 79 y_Rows_nearest prog_9_method_9_code 6 (some .int) 3 := ⟨(kw_m3 (i := 194) (by decide +kernel) (by decide +kernel)), w_Rows_nearest, in_Rows, by decide +kernel, by decide +kernel, by decide +kernel⟩
theorem s_Rows_nearest : Cond.static y_Rows_nearest ∈ kw_Ts := (kw_m3 (i := 195) (by decide +kernel) (by decide +kernel))
theorem fi_Rows_16 : kw_fi "PictureFile$Rows" 16 3 1 true := ⟨mmR_3, mmT_3, 2, rfl, rfl, by decide, mmI_3, mmY_3, mmN_3, rfl, (kw_m1 (i := 86) (by decide +kernel) (by decide +kernel))⟩
def y_Rows_guess : MethodName := ⟨"PictureFile$Rows", "guess", "(LPictureFile$Layout;III)I"⟩
theorem w_Rows_guess : Cond.code y_Rows_guess prog_9_method_8_code 10 (some .int) ∈ kw_Ts := (kw_m3 (i := 193) (by decide +kernel) (by decide +kernel))
def y_Picture_indexOf : MethodName := ⟨"PictureFile$Picture", "indexOf", "(II)I"⟩
theorem w_Picture_indexOf : Cond.code y_Picture_indexOf prog_7_method_9_code 3 (some .int) ∈ kw_Ts := (kw_m3 (i := 207) (by decide +kernel) (by decide +kernel))
def y_Rows_sampleAt : MethodName := ⟨"PictureFile$Rows", "sampleAt", "(III)I"⟩
theorem w_Rows_sampleAt : Cond.code y_Rows_sampleAt prog_9_method_5_code 5 (some .int) ∈ kw_Ts := (kw_m3 (i := 211) (by decide +kernel) (by decide +kernel))
theorem fi_Rows_19 : kw_fi "PictureFile$Rows" 19 10 11 true := ⟨mmR_10, mmT_10, 12, rfl, rfl, by decide, mmI_10, mmY_10, mmN_10, rfl, (kw_m2 (i := 142) (by decide +kernel) (by decide +kernel))⟩
theorem fi_Rows_31 : kw_fi "PictureFile$Rows" 31 11 6 true := ⟨mmR_11, mmT_11, 10, rfl, rfl, by decide, mmI_11, mmY_11, mmN_11, rfl, (kw_m2 (i := 70) (by decide +kernel) (by decide +kernel))⟩
theorem fi_Rows_34 : kw_fi "PictureFile$Rows" 34 11 3 true := ⟨mmR_11, mmT_11, 10, rfl, rfl, by decide, mmI_11, mmY_11, mmN_11, rfl, (kw_m2 (i := 64) (by decide +kernel) (by decide +kernel))⟩
theorem fi_Rows_37 : kw_fi "PictureFile$Rows" 37 11 5 true := ⟨mmR_11, mmT_11, 10, rfl, rfl, by decide, mmI_11, mmY_11, mmN_11, rfl, (kw_m2 (i := 68) (by decide +kernel) (by decide +kernel))⟩
theorem fi_Rows_40 : kw_fi "PictureFile$Rows" 40 11 4 true := ⟨mmR_11, mmT_11, 10, rfl, rfl, by decide, mmI_11, mmY_11, mmN_11, rfl, (kw_m2 (i := 66) (by decide +kernel) (by decide +kernel))⟩
theorem mi_Rows_43 : kw_mi "PictureFile$Rows" 43 y_Picture_indexOf prog_7_method_9_code 3 (some .int) 2 := ⟨(kw_m3 (i := 204) (by decide +kernel) (by decide +kernel)), w_Picture_indexOf, in_Picture, by decide +kernel, by decide +kernel, by decide +kernel⟩
theorem v_Picture_indexOf : Cond.instanceMethod y_Picture_indexOf ∈ kw_Ts ∧ Cond.selects y_Picture_indexOf.cls y_Picture_indexOf y_Picture_indexOf ∈ kw_Ts := ⟨(kw_m3 (i := 205) (by decide +kernel) (by decide +kernel)), (kw_m3 (i := 206) (by decide +kernel) (by decide +kernel))⟩
theorem fi_Rows_47 : kw_fi "PictureFile$Rows" 47 10 5 false := ⟨mmR_10, mmT_10, 12, rfl, rfl, by decide, mmI_10, mmY_10, mmN_10, rfl, (kw_m2 (i := 120) (by decide +kernel) (by decide +kernel))⟩
theorem fi_Rows_54 : kw_fi "PictureFile$Rows" 54 10 8 true := ⟨mmR_10, mmT_10, 12, rfl, rfl, by decide, mmI_10, mmY_10, mmN_10, rfl, (kw_m2 (i := 133) (by decide +kernel) (by decide +kernel))⟩
theorem fi_Rows_51 : kw_fi "PictureFile$Rows" 51 10 3 false := ⟨mmR_10, mmT_10, 12, rfl, rfl, by decide, mmI_10, mmY_10, mmN_10, rfl, (kw_m2 (i := 112) (by decide +kernel) (by decide +kernel))⟩
theorem mi_Rows_61 : kw_mi "PictureFile$Rows" 61 y_Rows_sampleAt prog_9_method_5_code 5 (some .int) 3 := ⟨(kw_m3 (i := 208) (by decide +kernel) (by decide +kernel)), w_Rows_sampleAt, in_Rows, by decide +kernel, by decide +kernel, by decide +kernel⟩
theorem v_Rows_sampleAt : Cond.instanceMethod y_Rows_sampleAt ∈ kw_Ts ∧ Cond.selects y_Rows_sampleAt.cls y_Rows_sampleAt y_Rows_sampleAt ∈ kw_Ts := ⟨(kw_m3 (i := 210) (by decide +kernel) (by decide +kernel)), (kw_sel (i := 21) (by decide +kernel) (by decide +kernel))⟩
def y_Rows_scatter : MethodName := ⟨"PictureFile$Rows", "scatter", "(LPictureFile$Picture;I)V"⟩
theorem w_Rows_scatter : Cond.code y_Rows_scatter prog_9_method_4_code 9 none ∈ kw_Ts := (kw_m3 (i := 203) (by decide +kernel) (by decide +kernel))
theorem fi_Rows_116 : kw_fi "PictureFile$Rows" 116 10 0 false := ⟨mmR_10, mmT_10, 12, rfl, rfl, by decide, mmI_10, mmY_10, mmN_10, rfl, (kw_m2 (i := 102) (by decide +kernel) (by decide +kernel))⟩
theorem fi_Rows_119 : kw_fi "PictureFile$Rows" 119 10 1 false := ⟨mmR_10, mmT_10, 12, rfl, rfl, by decide, mmI_10, mmY_10, mmN_10, rfl, (kw_m2 (i := 106) (by decide +kernel) (by decide +kernel))⟩
theorem fi_Rows_122 : kw_fi "PictureFile$Rows" 122 10 6 false := ⟨mmR_10, mmT_10, 12, rfl, rfl, by decide, mmI_10, mmY_10, mmN_10, rfl, (kw_m2 (i := 128) (by decide +kernel) (by decide +kernel))⟩
theorem mi_Rows_100 : kw_mi "PictureFile$Rows" 100 y_Fault_refuse prog_3_method_3_code 3 (some .boolean) 2 := ⟨(kw_m3 (i := 189) (by decide +kernel) (by decide +kernel)), w_Fault_refuse, in_Fault, by decide +kernel, by decide +kernel, by decide +kernel⟩
def y_Rows_allColoursThere : MethodName := ⟨"PictureFile$Rows", "allColoursThere", "(LPictureFile$Picture;LPictureFile$Fault;)Z"⟩
theorem w_Rows_allColoursThere : Cond.code y_Rows_allColoursThere prog_9_method_13_code 3 (some .boolean) ∈ kw_Ts := (kw_m3 (i := 214) (by decide +kernel) (by decide +kernel))
theorem fi_Rows_88 : kw_fi "PictureFile$Rows" 88 11 0 false := ⟨mmR_11, mmT_11, 10, rfl, rfl, by decide, mmI_11, mmY_11, mmN_11, rfl, (kw_m2 (i := 57) (by decide +kernel) (by decide +kernel))⟩
theorem fi_Rows_109 : kw_fi "PictureFile$Rows" 109 10 2 false := ⟨mmR_10, mmT_10, 12, rfl, rfl, by decide, mmI_10, mmY_10, mmN_10, rfl, (kw_m2 (i := 111) (by decide +kernel) (by decide +kernel))⟩
theorem mi_Rows_112 : kw_mi "PictureFile$Rows" 112 y_Rows_allColoursThere prog_9_method_13_code 3 (some .boolean) 2 := ⟨(kw_m3 (i := 212) (by decide +kernel) (by decide +kernel)), w_Rows_allColoursThere, in_Rows, by decide +kernel, by decide +kernel, by decide +kernel⟩
theorem s_Rows_allColoursThere : Cond.static y_Rows_allColoursThere ∈ kw_Ts := (kw_m3 (i := 213) (by decide +kernel) (by decide +kernel))
theorem fi_Rows_28 : kw_fi "PictureFile$Rows" 28 11 8 true := ⟨mmR_11, mmT_11, 10, rfl, rfl, by decide, mmI_11, mmY_11, mmN_11, rfl, (kw_m2 (i := 74) (by decide +kernel) (by decide +kernel))⟩
theorem mi_Rows_106 : kw_mi "PictureFile$Rows" 106 y_Rows_scatter prog_9_method_4_code 9 none 2 := ⟨(kw_m3 (i := 200) (by decide +kernel) (by decide +kernel)), w_Rows_scatter, in_Rows, by decide +kernel, by decide +kernel, by decide +kernel⟩
theorem v_Rows_scatter : Cond.instanceMethod y_Rows_scatter ∈ kw_Ts ∧ Cond.selects y_Rows_scatter.cls y_Rows_scatter y_Rows_scatter ∈ kw_Ts := ⟨(kw_m3 (i := 202) (by decide +kernel) (by decide +kernel)), (kw_sel (i := 20) (by decide +kernel) (by decide +kernel))⟩
theorem mi_Rows_69 : kw_mi "PictureFile$Rows" 69 y_Rows_guess prog_9_method_8_code 10 (some .int) 4 := ⟨(kw_m3 (i := 190) (by decide +kernel) (by decide +kernel)), w_Rows_guess, in_Rows, by decide +kernel, by decide +kernel, by decide +kernel⟩
theorem v_Rows_guess : Cond.instanceMethod y_Rows_guess ∈ kw_Ts ∧ Cond.selects y_Rows_guess.cls y_Rows_guess y_Rows_guess ∈ kw_Ts := ⟨(kw_m3 (i := 192) (by decide +kernel) (by decide +kernel)), (kw_sel (i := 19) (by decide +kernel) (by decide +kernel))⟩
def y_Rows_restore : MethodName := ⟨"PictureFile$Rows", "restore", "(LPictureFile$Picture;LPictureFile$Fault;)Z"⟩
theorem w_Rows_restore : Cond.code y_Rows_restore prog_9_method_12_code 8 (some .boolean) ∈ kw_Ts := (kw_m3 (i := 188) (by decide +kernel) (by decide +kernel))
theorem fi_PF_19 : kw_fi "PictureFile" 19 0 1 true := ⟨mmR_0, mmT_0, 9, rfl, rfl, by decide, mmI_0, mmY_0, mmN_0, rfl, (kw_m2 (i := 171) (by decide +kernel) (by decide +kernel))⟩
theorem mi_PF_91 : kw_mi "PictureFile" 91 y_Fault_clear prog_3_method_2_code 1 none 0 := ⟨(kw_m2 (i := 202) (by decide +kernel) (by decide +kernel)), w_Fault_clear, in_Fault, by decide +kernel, by decide +kernel, by decide +kernel⟩
theorem v_Fault_clear : Cond.instanceMethod y_Fault_clear ∈ kw_Ts ∧ Cond.selects y_Fault_clear.cls y_Fault_clear y_Fault_clear ∈ kw_Ts := ⟨(kw_m2 (i := 203) (by decide +kernel) (by decide +kernel)), (kw_m2 (i := 204) (by decide +kernel) (by decide +kernel))⟩
theorem fi_PF_40 : kw_fi "PictureFile" 40 0 2 true := ⟨mmR_0, mmT_0, 9, rfl, rfl, by decide, mmI_0, mmY_0, mmN_0, rfl, (kw_m2 (i := 172) (by decide +kernel) (by decide +kernel))⟩
theorem fi_PF_69 : kw_fi "PictureFile" 69 0 7 false := ⟨mmR_0, mmT_0, 9, rfl, rfl, by decide, mmI_0, mmY_0, mmN_0, rfl, (kw_m2 (i := 177) (by decide +kernel) (by decide +kernel))⟩
theorem mi_PF_94 : kw_mi "PictureFile" 94 y_Pieces_walk prog_8_method_2_code 4 (some .boolean) 1 := ⟨(kw_m2 (i := 206) (by decide +kernel) (by decide +kernel)), w_Pieces_walk, in_Pieces, by decide +kernel, by decide +kernel, by decide +kernel⟩
theorem v_Pieces_walk : Cond.instanceMethod y_Pieces_walk ∈ kw_Ts ∧ Cond.selects y_Pieces_walk.cls y_Pieces_walk y_Pieces_walk ∈ kw_Ts := ⟨(kw_m2 (i := 207) (by decide +kernel) (by decide +kernel)), (kw_m2 (i := 208) (by decide +kernel) (by decide +kernel))⟩
theorem fi_PF_65 : kw_fi "PictureFile" 65 0 6 false := ⟨mmR_0, mmT_0, 9, rfl, rfl, by decide, mmI_0, mmY_0, mmN_0, rfl, (kw_m2 (i := 176) (by decide +kernel) (by decide +kernel))⟩
theorem fi_PF_72 : kw_fi "PictureFile" 72 0 8 false := ⟨mmR_0, mmT_0, 9, rfl, rfl, by decide, mmI_0, mmY_0, mmN_0, rfl, (kw_m2 (i := 178) (by decide +kernel) (by decide +kernel))⟩
theorem fi_PF_115 : kw_fi "PictureFile" 115 2 1 false := ⟨mmR_2, mmT_2, 2, rfl, rfl, by decide, mmI_2, mmY_2, mmN_2, rfl, (kw_m1 (i := 69) (by decide +kernel) (by decide +kernel))⟩
theorem fi_PF_49 : kw_fi "PictureFile" 49 0 3 true := ⟨mmR_0, mmT_0, 9, rfl, rfl, by decide, mmI_0, mmY_0, mmN_0, rfl, (kw_m2 (i := 173) (by decide +kernel) (by decide +kernel))⟩
theorem fi_PF_98 : kw_fi "PictureFile" 98 10 11 true := ⟨mmR_10, mmT_10, 12, rfl, rfl, by decide, mmI_10, mmY_10, mmN_10, rfl, (kw_m2 (i := 144) (by decide +kernel) (by decide +kernel))⟩
theorem fi_PF_102 : kw_fi "PictureFile" 102 11 1 false := ⟨mmR_11, mmT_11, 10, rfl, rfl, by decide, mmI_11, mmY_11, mmN_11, rfl, (kw_m2 (i := 60) (by decide +kernel) (by decide +kernel))⟩
theorem mi_PF_107 : kw_mi "PictureFile" 107 y_Unpacker_unpack prog_11_method_2_code 4 (some .boolean) 1 := ⟨(kw_m3 (i := 90) (by decide +kernel) (by decide +kernel)), w_Unpacker_unpack, in_Unpacker, by decide +kernel, by decide +kernel, by decide +kernel⟩
theorem v_Unpacker_unpack : Cond.instanceMethod y_Unpacker_unpack ∈ kw_Ts ∧ Cond.selects y_Unpacker_unpack.cls y_Unpacker_unpack y_Unpacker_unpack ∈ kw_Ts := ⟨(kw_m3 (i := 91) (by decide +kernel) (by decide +kernel)), (kw_m3 (i := 92) (by decide +kernel) (by decide +kernel))⟩
theorem fi_PF_26 : kw_fi "PictureFile" 26 0 4 true := ⟨mmR_0, mmT_0, 9, rfl, rfl, by decide, mmI_0, mmY_0, mmN_0, rfl, (kw_m2 (i := 174) (by decide +kernel) (by decide +kernel))⟩
theorem mi_PF_111 : kw_mi "PictureFile" 111 y_Rows_restore prog_9_method_12_code 8 (some .boolean) 2 := ⟨(kw_m3 (i := 185) (by decide +kernel) (by decide +kernel)), w_Rows_restore, in_Rows, by decide +kernel, by decide +kernel, by decide +kernel⟩
theorem v_Rows_restore : Cond.instanceMethod y_Rows_restore ∈ kw_Ts ∧ Cond.selects y_Rows_restore.cls y_Rows_restore y_Rows_restore ∈ kw_Ts := ⟨(kw_m3 (i := 186) (by decide +kernel) (by decide +kernel)), (kw_m3 (i := 187) (by decide +kernel) (by decide +kernel))⟩
def y_PF_read : MethodName := ⟨"PictureFile", "read", "()I"⟩
theorem w_PF_read : Cond.code y_PF_read prog_1_method_4_code 3 (some .int) ∈ kw_Ts := (kw_m2 (i := 201) (by decide +kernel) (by decide +kernel))
theorem fi_PF_118 : kw_fi "PictureFile" 118 2 0 false := ⟨mmR_2, mmT_2, 2, rfl, rfl, by decide, mmI_2, mmY_2, mmN_2, rfl, (kw_m1 (i := 66) (by decide +kernel) (by decide +kernel))⟩
def y_PF_fault : MethodName := ⟨"PictureFile", "fault", "()I"⟩
theorem w_PF_fault : Cond.code y_PF_fault prog_1_method_5_code 1 (some .int) ∈ kw_Ts := (kw_m3 (i := 218) (by decide +kernel) (by decide +kernel))
theorem mi_PF_121 : kw_mi "PictureFile" 121 y_Picture_isSize prog_7_method_2_code 1 (some .boolean) 1 := ⟨(kw_m4 (i := 94) (by decide +kernel) (by decide +kernel)), w_Picture_isSize, in_Picture, by decide +kernel, by decide +kernel, by decide +kernel⟩
theorem mi_PF_124 : kw_mi "PictureFile" 124 y_Picture_kindHas prog_7_method_4_code 2 (some .boolean) 2 := ⟨(kw_m4 (i := 95) (by decide +kernel) (by decide +kernel)), w_Picture_kindHas, in_Picture, by decide +kernel, by decide +kernel, by decide +kernel⟩
theorem mi_PF_128 : kw_mi "PictureFile" 128 y_Picture_begin prog_7_method_8_code 7 none 5 := ⟨(kw_m4 (i := 96) (by decide +kernel) (by decide +kernel)), w_Picture_begin, in_Picture, by decide +kernel, by decide +kernel, by decide +kernel⟩
theorem mi_PF_132 : kw_mi "PictureFile" 132 y_Picture_addColour prog_7_method_14_code 4 none 3 := ⟨(kw_m4 (i := 97) (by decide +kernel) (by decide +kernel)), w_Picture_addColour, in_Picture, by decide +kernel, by decide +kernel, by decide +kernel⟩
def y_PF_make : MethodName := ⟨"PictureFile", "make", "(IIIIZ)V"⟩
theorem w_PF_make : Cond.code y_PF_make prog_1_method_6_code 6 none ∈ kw_Ts := (kw_m4 (i := 93) (by decide +kernel) (by decide +kernel))
theorem in_IllegalStateException : Cond.initialized "java/lang/IllegalStateException" ∈ kw_Ts := (kw_m1 (i := 21) (by decide +kernel) (by decide +kernel))
theorem ti_PF_230_232 : kw_ti "PictureFile" 230 232 "java/lang/IllegalStateException" ["java/lang/RuntimeException", "java/lang/Exception"] := ⟨by decide +kernel, by decide +kernel, (kw_m4 (i := 110) (by decide +kernel) (by decide +kernel)), in_IllegalStateException, kw_tiw (by decide +kernel), by decide +kernel, (kw_m4 (i := 111) (by decide +kernel) (by decide +kernel))⟩
def y_PF_wantPicture : MethodName := ⟨"PictureFile", "wantPicture", "()V"⟩
theorem w_PF_wantPicture : Cond.code y_PF_wantPicture prog_1_method_20_code 1 none ∈ kw_Ts := (kw_m4 (i := 109) (by decide +kernel) (by decide +kernel))
theorem in_PF : Cond.initialized "PictureFile" ∈ kw_Ts := (kw_m1 (i := 1) (by decide +kernel) (by decide +kernel))
theorem mi_PF_136 : kw_mi "PictureFile" 136 y_PF_wantPicture prog_1_method_20_code 1 none 0 := ⟨(kw_m4 (i := 106) (by decide +kernel) (by decide +kernel)), w_PF_wantPicture, in_PF, by decide +kernel, by decide +kernel, by decide +kernel⟩
theorem v_PF_wantPicture : Cond.instanceMethod y_PF_wantPicture ∈ kw_Ts ∧ Cond.selects y_PF_wantPicture.cls y_PF_wantPicture y_PF_wantPicture ∈ kw_Ts := ⟨(kw_m4 (i := 108) (by decide +kernel) (by decide +kernel)), (kw_sel (i := 23) (by decide +kernel) (by decide +kernel))⟩
theorem fi_PF_139 : kw_fi "PictureFile" 139 10 0 false := ⟨mmR_10, mmT_10, 12, rfl, rfl, by decide, mmI_10, mmY_10, mmN_10, rfl, (kw_m2 (i := 100) (by decide +kernel) (by decide +kernel))⟩
theorem fi_PF_142 : kw_fi "PictureFile" 142 10 1 false := ⟨mmR_10, mmT_10, 12, rfl, rfl, by decide, mmI_10, mmY_10, mmN_10, rfl, (kw_m2 (i := 104) (by decide +kernel) (by decide +kernel))⟩
theorem fi_PF_145 : kw_fi "PictureFile" 145 10 2 false := ⟨mmR_10, mmT_10, 12, rfl, rfl, by decide, mmI_10, mmY_10, mmN_10, rfl, (kw_m2 (i := 109) (by decide +kernel) (by decide +kernel))⟩
theorem fi_PF_148 : kw_fi "PictureFile" 148 10 3 false := ⟨mmR_10, mmT_10, 12, rfl, rfl, by decide, mmI_10, mmY_10, mmN_10, rfl, (kw_m2 (i := 114) (by decide +kernel) (by decide +kernel))⟩
theorem fi_PF_151 : kw_fi "PictureFile" 151 10 4 false := ⟨mmR_10, mmT_10, 12, rfl, rfl, by decide, mmI_10, mmY_10, mmN_10, rfl, (kw_m2 (i := 118) (by decide +kernel) (by decide +kernel))⟩
theorem fi_PF_154 : kw_fi "PictureFile" 154 10 6 false := ⟨mmR_10, mmT_10, 12, rfl, rfl, by decide, mmI_10, mmY_10, mmN_10, rfl, (kw_m2 (i := 125) (by decide +kernel) (by decide +kernel))⟩
theorem fi_PF_157 : kw_fi "PictureFile" 157 10 7 false := ⟨mmR_10, mmT_10, 12, rfl, rfl, by decide, mmI_10, mmY_10, mmN_10, rfl, (kw_m2 (i := 130) (by decide +kernel) (by decide +kernel))⟩
theorem fi_PF_160 : kw_fi "PictureFile" 160 11 0 false := ⟨mmR_11, mmT_11, 10, rfl, rfl, by decide, mmI_11, mmY_11, mmN_11, rfl, (kw_m2 (i := 56) (by decide +kernel) (by decide +kernel))⟩
def y_PF_about : MethodName := ⟨"PictureFile", "about", "(I)I"⟩
theorem w_PF_about : Cond.code y_PF_about prog_1_method_7_code 2 (some .int) ∈ kw_Ts := (kw_m4 (i := 105) (by decide +kernel) (by decide +kernel))
theorem in_IndexOutOfBoundsException : Cond.initialized "java/lang/IndexOutOfBoundsException" ∈ kw_Ts := (kw_m1 (i := 22) (by decide +kernel) (by decide +kernel))
theorem ti_PF_177_179 : kw_ti "PictureFile" 177 179 "java/lang/IndexOutOfBoundsException" ["java/lang/RuntimeException", "java/lang/Exception"] := ⟨by decide +kernel, by decide +kernel, (kw_m4 (i := 137) (by decide +kernel) (by decide +kernel)), in_IndexOutOfBoundsException, kw_tiw (by decide +kernel), by decide +kernel, (kw_m4 (i := 138) (by decide +kernel) (by decide +kernel))⟩
theorem fi_PF_233 : kw_fi "PictureFile" 233 10 5 false := ⟨mmR_10, mmT_10, 12, rfl, rfl, by decide, mmI_10, mmY_10, mmN_10, rfl, (kw_m2 (i := 123) (by decide +kernel) (by decide +kernel))⟩
def y_PF_wantSample : MethodName := ⟨"PictureFile", "wantSample", "(III)V"⟩
theorem w_PF_wantSample : Cond.code y_PF_wantSample prog_1_method_21_code 4 none ∈ kw_Ts := (kw_m4 (i := 136) (by decide +kernel) (by decide +kernel))
/-! Unpacker_takeSum -/
def rm_Unpacker_takeSum : Room := { frames := 1, cells := 0, slots := 0, locals := 24 }
def F_Unpacker_takeSum (n : Nat) (t : Nat) (σ : Mm) : Option (Int32 × Mm) :=
Option.bind (gR σ (64 * t + 0)) fun o1 =>
Option.bind (F_PackedBits_leaveByte n o1 σ) fun σ2 =>
Option.bind (gR σ2 (64 * t + 0)) fun o3 =>
kf_let (gS σ2 (64 * o3 + 5) : Int32) fun x4 =>
if (gS σ2 (64 * t + 10)) ≤ (gS σ2 (64 * t + 11)) then (
kf_l (α := Int32 × Int32) n (fun k5 x6 σ7 =>
if 4 ≤ x6.2 then (
Option.bind (gR σ7 (64 * t + 2)) fun o8 =>
kf_c2 (F_Rows_sumOf n o8 (gS σ7 (64 * t + 10)) σ7) fun x9 σ10 =>
if x6.1 = x9 then (
Option.bind (gR σ10 (64 * t + 0)) fun o11 =>
kf_c2 (F_PackedBits_isAtEnd n o11 σ10) fun x12 σ13 =>
kf_j (α := Int32) (fun x15 σ16 =>
kf_z x15 (some (x15, σ16))) fun k14 =>
kf_j (α := Unit) (fun x18 σ19 =>
k14 1 σ19) fun k17 =>
if x12 = 0 then (
Option.bind (gR σ13 (64 * t + 1)) fun o20 =>
Option.bind (gR σ13 (64 * t + 0)) fun o21 =>
Option.bind (gR σ13 (64 * t + 0)) fun o22 =>
kf_c2 (F_PackedBits_placeOf n o21 (gS σ13 (64 * o22 + 5)) σ13) fun x23 σ24 =>
kf_c2 (F_Fault_refuse n o20 29 x23 σ24) fun x25 σ26 =>
if x25 = 0 then (
k14 0 σ26) else (
k17 () σ26)) else (
k17 () σ13)) else (
Option.bind (gR σ10 (64 * t + 1)) fun o27 =>
Option.bind (gR σ10 (64 * t + 0)) fun o28 =>
kf_c2 (F_PackedBits_placeOf n o28 x4 σ10) fun x29 σ30 =>
kf_c2 (F_Fault_refuse n o27 28 x29 σ30) fun x31 σ32 =>
kf_z x31 (some (x31, σ32)))) else (
Option.bind (gR σ7 (64 * t + 0)) fun o33 =>
kf_c2 (F_PackedBits_number n o33 8 σ7) fun x34 σ35 =>
if x34 = (-1) then (
kf_z 0 (some (0, σ35))) else (
kf_let ((x6.1 <<< (8 &&& 31)) ||| x34 : Int32) fun x36 =>
kf_let (x6.2 + Int32.ofInt 1) fun x37 =>
k5 (x36, x37) σ35))) (0, 0) σ2) else (
Option.bind (gR σ2 (64 * t + 1)) fun o38 =>
Option.bind (gR σ2 (64 * t + 0)) fun o39 =>
kf_c2 (F_PackedBits_placeOf n o39 x4 σ2) fun x40 σ41 =>
kf_c2 (F_Fault_refuse n o38 27 x40 σ41) fun x42 σ43 =>
kf_z x42 (some (x42, σ43)))
theorem d_Unpacker_takeSum_0 : decode prog_11_method_12_code 0 = .ok (.aload_n 0, 1) := by decide +kernel
theorem d_Unpacker_takeSum_1 : decode prog_11_method_12_code 1 = .ok (.getfield 36, 3) := by decide +kernel
theorem d_Unpacker_takeSum_4 : decode prog_11_method_12_code 4 = .ok (.invokevirtual 107, 3) := by decide +kernel
theorem d_Unpacker_takeSum_7 : decode prog_11_method_12_code 7 = .ok (.aload_n 0, 1) := by decide +kernel
theorem d_Unpacker_takeSum_8 : decode prog_11_method_12_code 8 = .ok (.getfield 36, 3) := by decide +kernel
theorem d_Unpacker_takeSum_11 : decode prog_11_method_12_code 11 = .ok (.getfield 94, 3) := by decide +kernel
theorem d_Unpacker_takeSum_14 : decode prog_11_method_12_code 14 = .ok (.istore_n 1, 1) := by decide +kernel
theorem d_Unpacker_takeSum_15 : decode prog_11_method_12_code 15 = .ok (.aload_n 0, 1) := by decide +kernel
theorem d_Unpacker_takeSum_16 : decode prog_11_method_12_code 16 = .ok (.getfield 62, 3) := by decide +kernel
theorem d_Unpacker_takeSum_19 : decode prog_11_method_12_code 19 = .ok (.aload_n 0, 1) := by decide +kernel
theorem d_Unpacker_takeSum_20 : decode prog_11_method_12_code 20 = .ok (.getfield 58, 3) := by decide +kernel
theorem d_Unpacker_takeSum_23 : decode prog_11_method_12_code 23 = .ok (.if_icmp .ge 21, 3) := by decide +kernel
theorem d_Unpacker_takeSum_26 : decode prog_11_method_12_code 26 = .ok (.aload_n 0, 1) := by decide +kernel
theorem d_Unpacker_takeSum_27 : decode prog_11_method_12_code 27 = .ok (.getfield 40, 3) := by decide +kernel
theorem d_Unpacker_takeSum_30 : decode prog_11_method_12_code 30 = .ok (.bipush 27, 2) := by decide +kernel
theorem d_Unpacker_takeSum_32 : decode prog_11_method_12_code 32 = .ok (.aload_n 0, 1) := by decide +kernel
theorem d_Unpacker_takeSum_33 : decode prog_11_method_12_code 33 = .ok (.getfield 36, 3) := by decide +kernel
theorem d_Unpacker_takeSum_36 : decode prog_11_method_12_code 36 = .ok (.iload_n 1, 1) := by decide +kernel
theorem d_Unpacker_takeSum_37 : decode prog_11_method_12_code 37 = .ok (.invokevirtual 82, 3) := by decide +kernel
theorem d_Unpacker_takeSum_40 : decode prog_11_method_12_code 40 = .ok (.invokevirtual 85, 3) := by decide +kernel
theorem d_Unpacker_takeSum_43 : decode prog_11_method_12_code 43 = .ok (.ireturn, 1) := by decide +kernel
theorem d_Unpacker_takeSum_44 : decode prog_11_method_12_code 44 = .ok (.iconst 0, 1) := by decide +kernel
theorem d_Unpacker_takeSum_45 : decode prog_11_method_12_code 45 = .ok (.istore_n 2, 1) := by decide +kernel
theorem d_Unpacker_takeSum_46 : decode prog_11_method_12_code 46 = .ok (.iconst 0, 1) := by decide +kernel
theorem d_Unpacker_takeSum_47 : decode prog_11_method_12_code 47 = .ok (.istore_n 3, 1) := by decide +kernel
theorem d_Unpacker_takeSum_48 : decode prog_11_method_12_code 48 = .ok (.iload_n 3, 1) := by decide +kernel
theorem d_Unpacker_takeSum_49 : decode prog_11_method_12_code 49 = .ok (.iconst 4, 1) := by decide +kernel
theorem d_Unpacker_takeSum_50 : decode prog_11_method_12_code 50 = .ok (.if_icmp .ge 36, 3) := by decide +kernel
theorem d_Unpacker_takeSum_53 : decode prog_11_method_12_code 53 = .ok (.aload_n 0, 1) := by decide +kernel
theorem d_Unpacker_takeSum_54 : decode prog_11_method_12_code 54 = .ok (.getfield 36, 3) := by decide +kernel
theorem d_Unpacker_takeSum_57 : decode prog_11_method_12_code 57 = .ok (.bipush 8, 2) := by decide +kernel
theorem d_Unpacker_takeSum_59 : decode prog_11_method_12_code 59 = .ok (.invokevirtual 70, 3) := by decide +kernel
theorem d_Unpacker_takeSum_62 : decode prog_11_method_12_code 62 = .ok (.istore 4, 2) := by decide +kernel
theorem d_Unpacker_takeSum_64 : decode prog_11_method_12_code 64 = .ok (.iload 4, 2) := by decide +kernel
theorem d_Unpacker_takeSum_66 : decode prog_11_method_12_code 66 = .ok (.iconst (-1), 1) := by decide +kernel
theorem d_Unpacker_takeSum_67 : decode prog_11_method_12_code 67 = .ok (.if_icmp .ne 5, 3) := by decide +kernel
theorem d_Unpacker_takeSum_70 : decode prog_11_method_12_code 70 = .ok (.iconst 0, 1) := by decide +kernel
theorem d_Unpacker_takeSum_71 : decode prog_11_method_12_code 71 = .ok (.ireturn, 1) := by decide +kernel
theorem d_Unpacker_takeSum_72 : decode prog_11_method_12_code 72 = .ok (.iload_n 2, 1) := by decide +kernel
theorem d_Unpacker_takeSum_73 : decode prog_11_method_12_code 73 = .ok (.bipush 8, 2) := by decide +kernel
theorem d_Unpacker_takeSum_75 : decode prog_11_method_12_code 75 = .ok (.ishl, 1) := by decide +kernel
theorem d_Unpacker_takeSum_76 : decode prog_11_method_12_code 76 = .ok (.iload 4, 2) := by decide +kernel
theorem d_Unpacker_takeSum_78 : decode prog_11_method_12_code 78 = .ok (.ior, 1) := by decide +kernel
theorem d_Unpacker_takeSum_79 : decode prog_11_method_12_code 79 = .ok (.istore_n 2, 1) := by decide +kernel
theorem d_Unpacker_takeSum_80 : decode prog_11_method_12_code 80 = .ok (.iinc 3 1, 3) := by decide +kernel
theorem d_Unpacker_takeSum_83 : decode prog_11_method_12_code 83 = .ok (.goto (-35), 3) := by decide +kernel
theorem d_Unpacker_takeSum_86 : decode prog_11_method_12_code 86 = .ok (.iload_n 2, 1) := by decide +kernel
theorem d_Unpacker_takeSum_87 : decode prog_11_method_12_code 87 = .ok (.aload_n 0, 1) := by decide +kernel
theorem d_Unpacker_takeSum_88 : decode prog_11_method_12_code 88 = .ok (.getfield 44, 3) := by decide +kernel
theorem d_Unpacker_takeSum_91 : decode prog_11_method_12_code 91 = .ok (.aload_n 0, 1) := by decide +kernel
theorem d_Unpacker_takeSum_92 : decode prog_11_method_12_code 92 = .ok (.getfield 58, 3) := by decide +kernel
theorem d_Unpacker_takeSum_95 : decode prog_11_method_12_code 95 = .ok (.invokevirtual 159, 3) := by decide +kernel
theorem d_Unpacker_takeSum_98 : decode prog_11_method_12_code 98 = .ok (.if_icmp .eq 21, 3) := by decide +kernel
theorem d_Unpacker_takeSum_101 : decode prog_11_method_12_code 101 = .ok (.aload_n 0, 1) := by decide +kernel
theorem d_Unpacker_takeSum_102 : decode prog_11_method_12_code 102 = .ok (.getfield 40, 3) := by decide +kernel
theorem d_Unpacker_takeSum_105 : decode prog_11_method_12_code 105 = .ok (.bipush 28, 2) := by decide +kernel
theorem d_Unpacker_takeSum_107 : decode prog_11_method_12_code 107 = .ok (.aload_n 0, 1) := by decide +kernel
theorem d_Unpacker_takeSum_108 : decode prog_11_method_12_code 108 = .ok (.getfield 36, 3) := by decide +kernel
theorem d_Unpacker_takeSum_111 : decode prog_11_method_12_code 111 = .ok (.iload_n 1, 1) := by decide +kernel
theorem d_Unpacker_takeSum_112 : decode prog_11_method_12_code 112 = .ok (.invokevirtual 82, 3) := by decide +kernel
theorem d_Unpacker_takeSum_115 : decode prog_11_method_12_code 115 = .ok (.invokevirtual 85, 3) := by decide +kernel
theorem d_Unpacker_takeSum_118 : decode prog_11_method_12_code 118 = .ok (.ireturn, 1) := by decide +kernel
theorem d_Unpacker_takeSum_119 : decode prog_11_method_12_code 119 = .ok (.aload_n 0, 1) := by decide +kernel
theorem d_Unpacker_takeSum_120 : decode prog_11_method_12_code 120 = .ok (.getfield 36, 3) := by decide +kernel
theorem d_Unpacker_takeSum_123 : decode prog_11_method_12_code 123 = .ok (.invokevirtual 162, 3) := by decide +kernel
theorem d_Unpacker_takeSum_126 : decode prog_11_method_12_code 126 = .ok (.ifCond .ne 29, 3) := by decide +kernel
theorem d_Unpacker_takeSum_129 : decode prog_11_method_12_code 129 = .ok (.aload_n 0, 1) := by decide +kernel
theorem d_Unpacker_takeSum_130 : decode prog_11_method_12_code 130 = .ok (.getfield 40, 3) := by decide +kernel
theorem d_Unpacker_takeSum_133 : decode prog_11_method_12_code 133 = .ok (.bipush 29, 2) := by decide +kernel
theorem d_Unpacker_takeSum_135 : decode prog_11_method_12_code 135 = .ok (.aload_n 0, 1) := by decide +kernel
theorem d_Unpacker_takeSum_136 : decode prog_11_method_12_code 136 = .ok (.getfield 36, 3) := by decide +kernel
theorem d_Unpacker_takeSum_139 : decode prog_11_method_12_code 139 = .ok (.aload_n 0, 1) := by decide +kernel
theorem d_Unpacker_takeSum_140 : decode prog_11_method_12_code 140 = .ok (.getfield 36, 3) := by decide +kernel
theorem d_Unpacker_takeSum_143 : decode prog_11_method_12_code 143 = .ok (.getfield 94, 3) := by decide +kernel
theorem d_Unpacker_takeSum_146 : decode prog_11_method_12_code 146 = .ok (.invokevirtual 82, 3) := by decide +kernel
theorem d_Unpacker_takeSum_149 : decode prog_11_method_12_code 149 = .ok (.invokevirtual 85, 3) := by decide +kernel
theorem d_Unpacker_takeSum_152 : decode prog_11_method_12_code 152 = .ok (.ifCond .eq 7, 3) := by decide +kernel
theorem d_Unpacker_takeSum_155 : decode prog_11_method_12_code 155 = .ok (.iconst 1, 1) := by decide +kernel
theorem d_Unpacker_takeSum_156 : decode prog_11_method_12_code 156 = .ok (.goto 4, 3) := by decide +kernel
theorem d_Unpacker_takeSum_159 : decode prog_11_method_12_code 159 = .ok (.iconst 0, 1) := by decide +kernel
theorem d_Unpacker_takeSum_160 : decode prog_11_method_12_code 160 = .ok (.ireturn, 1) := by decide +kernel
set_option maxRecDepth 100000 in
set_option maxHeartbeats 4000000 in
theorem c_Unpacker_takeSum {l0 : Launch} (hl : l0.stackTraces = false) (n : Nat) (ids : List Nat) {t : Nat} (ht : mm_ok ids t 1 6)  (σ : Mm) : kw_C l0 y_Unpacker_takeSum (Cond.code y_Unpacker_takeSum prog_11_method_12_code 5 (some .boolean) :: kw_Ts) rm_Unpacker_takeSum kw_oi ids [] [.ref t] σ (F_Unpacker_takeSum n t σ) := by
  refine kw_start (L0 := [some (.ref t), none, none, none, none]) hl (by decide +kernel) (Nat.le_of_ble_eq_true rfl) rfl (fun Γ ad C Ce => ?_)
  unfold F_Unpacker_takeSum
  refine kw_aload_n C d_Unpacker_takeSum_0 rfl ?_
  refine kw_getR C fi_Unpacker_36 rfl rfl ht d_Unpacker_takeSum_1 (fun o1 ho1 => ?_)
  refine kw_callVv (cl' := 0) (sl' := 0) (As := []) C (c_PackedBits_leaveByte hl n ids ho1  σ) mi_Unpacker_107 v_PackedBits_leaveByte ⟨_, _, rfl⟩ ho1 ⟨Nat.le_of_ble_eq_true rfl, Nat.le_of_ble_eq_true rfl⟩ (Nat.le_of_ble_eq_true rfl) ⟨Nat.le_of_ble_eq_true rfl, Nat.le_of_ble_eq_true rfl⟩ ⟨rfl, rfl⟩ rfl d_Unpacker_takeSum_4 (fun σ2 => ?_)
  refine kw_aload_n C d_Unpacker_takeSum_7 rfl ?_
  refine kw_getR C fi_Unpacker_36 rfl rfl ht d_Unpacker_takeSum_8 (fun o3 ho3 => ?_)
  refine kw_getI C fi_Unpacker_94 (Or.inl rfl) ho3 d_Unpacker_takeSum_11 ?_
  refine kw_leti (fun x4 => ?_)
  refine kw_istore_n (L' := [some (.ref t), some (.int x4), none, none, none]) C d_Unpacker_takeSum_14 (by decide) rfl ?_
  refine kw_aload_n C d_Unpacker_takeSum_15 rfl ?_
  refine kw_getI C fi_Unpacker_62 (Or.inl rfl) ht d_Unpacker_takeSum_16 ?_
  refine kw_aload_n C d_Unpacker_takeSum_19 rfl ?_
  refine kw_getI C fi_Unpacker_58 (Or.inl rfl) ht d_Unpacker_takeSum_20 ?_
  refine kw_icmp_ge (tgt := 44) C d_Unpacker_takeSum_23 (by decide) ?_ ?_
  · refine kw_iconst (v := 0) C d_Unpacker_takeSum_44 (by decide) ?_
    refine kw_istore_n (L' := [some (.ref t), some (.int x4), some (.int 0), none, none]) C d_Unpacker_takeSum_45 (by decide) rfl ?_
    refine kw_iconst (v := 0) C d_Unpacker_takeSum_46 (by decide) ?_
    refine kw_istore_n (L' := [some (.ref t), some (.int x4), some (.int 0), some (.int 0), none]) C d_Unpacker_takeSum_47 (by decide) rfl ?_
    refine kw_wk (kw_l (α := Int32 × Int32) (pc := 48) (Lj := fun x6 => [some (.ref t), some (.int x4), some (.int x6.1), some (.int x6.2), none]) (stj := fun x6 => []) (fun k5 hk5 x6 σ7 => ?_) n (0, 0) σ2) ⟨Or.inr rfl, Or.inr rfl, Or.inr rfl, Or.inr rfl, Or.inl rfl, trivial⟩
    refine kw_iload_n C d_Unpacker_takeSum_48 rfl ?_
    refine kw_iconst (v := 4) C d_Unpacker_takeSum_49 (by decide) ?_
    refine kw_icmp_ge (tgt := 86) C d_Unpacker_takeSum_50 (by decide) ?_ ?_
    · refine kw_iload_n C d_Unpacker_takeSum_86 rfl ?_
      refine kw_aload_n C d_Unpacker_takeSum_87 rfl ?_
      refine kw_getR C fi_Unpacker_44 rfl rfl ht d_Unpacker_takeSum_88 (fun o8 ho8 => ?_)
      refine kw_aload_n C d_Unpacker_takeSum_91 rfl ?_
      refine kw_getI C fi_Unpacker_58 (Or.inl rfl) ht d_Unpacker_takeSum_92 ?_
      refine kw_callVi (cl' := 0) (sl' := 0) (As := [.int (gS σ7 (64 * t + 10))]) C (c_Rows_sumOf hl n ids ho8 (gS σ7 (64 * t + 10)) σ7) mi_Unpacker_159 v_Rows_sumOf ⟨_, _, rfl⟩ ho8 ⟨Nat.le_of_ble_eq_true rfl, Nat.le_of_ble_eq_true rfl⟩ (Nat.le_of_ble_eq_true rfl) ⟨Nat.le_of_ble_eq_true rfl, Nat.le_of_ble_eq_true rfl⟩ ⟨rfl, rfl⟩ rfl d_Unpacker_takeSum_95 (fun x9 σ10 => ?_)
      refine kw_icmp_eq (tgt := 119) C d_Unpacker_takeSum_98 (by decide) ?_ ?_
      · refine kw_aload_n C d_Unpacker_takeSum_119 rfl ?_
        refine kw_getR C fi_Unpacker_36 rfl rfl ht d_Unpacker_takeSum_120 (fun o11 ho11 => ?_)
        refine kw_callVi (cl' := 0) (sl' := 0) (As := []) C (c_PackedBits_isAtEnd hl n ids ho11  σ10) mi_Unpacker_162 v_PackedBits_isAtEnd ⟨_, _, rfl⟩ ho11 ⟨Nat.le_of_ble_eq_true rfl, Nat.le_of_ble_eq_true rfl⟩ (Nat.le_of_ble_eq_true rfl) ⟨Nat.le_of_ble_eq_true rfl, Nat.le_of_ble_eq_true rfl⟩ ⟨rfl, rfl⟩ rfl d_Unpacker_takeSum_123 (fun x12 σ13 => ?_)
        refine kw_j (α := Int32) (pcj := 160) (Lj := fun x15 => [none, none, none, none, none]) (stj := fun x15 => [.int x15]) (fun x15 σ16 => ?_) (fun k14 hk14 => ?_)
        · exact kw_zret C Ce rfl (by simp) (fun _ _ => rfl) (Nat.le_of_ble_eq_true rfl) (Nat.le_of_ble_eq_true rfl) rfl d_Unpacker_takeSum_160
        · refine kw_j (α := Unit) (pcj := 155) (Lj := fun x18 => [none, none, none, none, none]) (stj := fun x18 => []) (fun x18 σ19 => ?_) (fun k17 hk17 => ?_)
          · refine kw_iconst (v := 1) C d_Unpacker_takeSum_155 (by decide) ?_
            refine kw_goto (tgt := 160) C d_Unpacker_takeSum_156 (by decide) ?_
            exact kw_wk (hk14 1 σ19) ⟨Or.inl rfl, Or.inl rfl, Or.inl rfl, Or.inl rfl, Or.inl rfl, trivial⟩
          · refine kw_if_ne (tgt := 155) C d_Unpacker_takeSum_126 (by decide) ?_ ?_
            · exact kw_wk (hk17 () σ13) ⟨Or.inl rfl, Or.inl rfl, Or.inl rfl, Or.inl rfl, Or.inl rfl, trivial⟩
            · refine kw_aload_n C d_Unpacker_takeSum_129 rfl ?_
              refine kw_getR C fi_Unpacker_40 rfl rfl ht d_Unpacker_takeSum_130 (fun o20 ho20 => ?_)
              refine kw_bipush (v := 29) C d_Unpacker_takeSum_133 (by decide) ?_
              refine kw_aload_n C d_Unpacker_takeSum_135 rfl ?_
              refine kw_getR C fi_Unpacker_36 rfl rfl ht d_Unpacker_takeSum_136 (fun o21 ho21 => ?_)
              refine kw_aload_n C d_Unpacker_takeSum_139 rfl ?_
              refine kw_getR C fi_Unpacker_36 rfl rfl ht d_Unpacker_takeSum_140 (fun o22 ho22 => ?_)
              refine kw_getI C fi_Unpacker_94 (Or.inl rfl) ho22 d_Unpacker_takeSum_143 ?_
              refine kw_callVi (cl' := 0) (sl' := 0) (As := [.int (gS σ13 (64 * o22 + 5))]) C (c_PackedBits_placeOf hl n ids ho21 (gS σ13 (64 * o22 + 5)) σ13) mi_Unpacker_82 v_PackedBits_placeOf ⟨_, _, rfl⟩ ho21 ⟨Nat.le_of_ble_eq_true rfl, Nat.le_of_ble_eq_true rfl⟩ (Nat.le_of_ble_eq_true rfl) ⟨Nat.le_of_ble_eq_true rfl, Nat.le_of_ble_eq_true rfl⟩ ⟨rfl, rfl⟩ rfl d_Unpacker_takeSum_146 (fun x23 σ24 => ?_)
              refine kw_callVi (cl' := 0) (sl' := 0) (As := [.int 29, .int x23]) C (c_Fault_refuse hl n ids ho20 29 x23 σ24) mi_Unpacker_85 v_Fault_refuse ⟨_, _, rfl⟩ ho20 ⟨Nat.le_of_ble_eq_true rfl, Nat.le_of_ble_eq_true rfl⟩ (Nat.le_of_ble_eq_true rfl) ⟨Nat.le_of_ble_eq_true rfl, Nat.le_of_ble_eq_true rfl⟩ ⟨rfl, rfl⟩ rfl d_Unpacker_takeSum_149 (fun x25 σ26 => ?_)
              refine kw_if_eq (tgt := 159) C d_Unpacker_takeSum_152 (by decide) ?_ ?_
              · refine kw_iconst (v := 0) C d_Unpacker_takeSum_159 (by decide) ?_
                exact kw_wk (hk14 0 σ26) ⟨Or.inl rfl, Or.inl rfl, Or.inl rfl, Or.inl rfl, Or.inl rfl, trivial⟩
              · exact kw_wk (hk17 () σ26) ⟨Or.inl rfl, Or.inl rfl, Or.inl rfl, Or.inl rfl, Or.inl rfl, trivial⟩
      · refine kw_aload_n C d_Unpacker_takeSum_101 rfl ?_
        refine kw_getR C fi_Unpacker_40 rfl rfl ht d_Unpacker_takeSum_102 (fun o27 ho27 => ?_)
        refine kw_bipush (v := 28) C d_Unpacker_takeSum_105 (by decide) ?_
        refine kw_aload_n C d_Unpacker_takeSum_107 rfl ?_
        refine kw_getR C fi_Unpacker_36 rfl rfl ht d_Unpacker_takeSum_108 (fun o28 ho28 => ?_)
        refine kw_iload_n C d_Unpacker_takeSum_111 rfl ?_
        refine kw_callVi (cl' := 0) (sl' := 0) (As := [.int x4]) C (c_PackedBits_placeOf hl n ids ho28 x4 σ10) mi_Unpacker_82 v_PackedBits_placeOf ⟨_, _, rfl⟩ ho28 ⟨Nat.le_of_ble_eq_true rfl, Nat.le_of_ble_eq_true rfl⟩ (Nat.le_of_ble_eq_true rfl) ⟨Nat.le_of_ble_eq_true rfl, Nat.le_of_ble_eq_true rfl⟩ ⟨rfl, rfl⟩ rfl d_Unpacker_takeSum_112 (fun x29 σ30 => ?_)
        refine kw_callVi (cl' := 0) (sl' := 0) (As := [.int 28, .int x29]) C (c_Fault_refuse hl n ids ho27 28 x29 σ30) mi_Unpacker_85 v_Fault_refuse ⟨_, _, rfl⟩ ho27 ⟨Nat.le_of_ble_eq_true rfl, Nat.le_of_ble_eq_true rfl⟩ (Nat.le_of_ble_eq_true rfl) ⟨Nat.le_of_ble_eq_true rfl, Nat.le_of_ble_eq_true rfl⟩ ⟨rfl, rfl⟩ rfl d_Unpacker_takeSum_115 (fun x31 σ32 => ?_)
        exact kw_zret C Ce rfl (by simp) (fun _ _ => rfl) (Nat.le_of_ble_eq_true rfl) (Nat.le_of_ble_eq_true rfl) rfl d_Unpacker_takeSum_118
    · refine kw_aload_n C d_Unpacker_takeSum_53 rfl ?_
      refine kw_getR C fi_Unpacker_36 rfl rfl ht d_Unpacker_takeSum_54 (fun o33 ho33 => ?_)
      refine kw_bipush (v := 8) C d_Unpacker_takeSum_57 (by decide) ?_
      refine kw_callVi (cl' := 0) (sl' := 0) (As := [.int 8]) C (c_PackedBits_number hl n ids ho33 8 σ7) mi_Unpacker_70 v_PackedBits_number ⟨_, _, rfl⟩ ho33 ⟨Nat.le_of_ble_eq_true rfl, Nat.le_of_ble_eq_true rfl⟩ (Nat.le_of_ble_eq_true rfl) ⟨Nat.le_of_ble_eq_true rfl, Nat.le_of_ble_eq_true rfl⟩ ⟨rfl, rfl⟩ rfl d_Unpacker_takeSum_59 (fun x34 σ35 => ?_)
      refine kw_istore (L' := [some (.ref t), some (.int x4), some (.int x6.1), some (.int x6.2), some (.int x34)]) C d_Unpacker_takeSum_62 (by decide) rfl ?_
      refine kw_iload C d_Unpacker_takeSum_64 rfl ?_
      refine kw_iconst (v := -1) C d_Unpacker_takeSum_66 (by decide) ?_
      refine kw_icmp_ne (tgt := 72) C d_Unpacker_takeSum_67 (by decide) ?_ ?_
      · refine kw_iload_n C d_Unpacker_takeSum_72 rfl ?_
        refine kw_bipush (v := 8) C d_Unpacker_takeSum_73 (by decide) ?_
        refine kw_ishl C d_Unpacker_takeSum_75 ?_
        refine kw_iload C d_Unpacker_takeSum_76 rfl ?_
        refine kw_ior C d_Unpacker_takeSum_78 ?_
        refine kw_leti (fun x36 => ?_)
        refine kw_istore_n (L' := [some (.ref t), some (.int x4), some (.int x36), some (.int x6.2), some (.int x34)]) C d_Unpacker_takeSum_79 (by decide) rfl ?_
        refine kw_iincL (L2 := fun x37 => [some (.ref t), some (.int x4), some (.int x36), some (.int x37), some (.int x34)]) C d_Unpacker_takeSum_80 (by decide) rfl (fun _ => rfl) (fun x37 => ?_)
        refine kw_goto (tgt := 48) C d_Unpacker_takeSum_83 (by decide) ?_
        exact kw_wk (hk5 (x36, x37) σ35) ⟨Or.inr rfl, Or.inr rfl, Or.inr rfl, Or.inr rfl, Or.inl rfl, trivial⟩
      · refine kw_iconst (v := 0) C d_Unpacker_takeSum_70 (by decide) ?_
        exact kw_zret C Ce rfl (by simp) (fun _ _ => rfl) (Nat.le_of_ble_eq_true rfl) (Nat.le_of_ble_eq_true rfl) rfl d_Unpacker_takeSum_71
  · refine kw_aload_n C d_Unpacker_takeSum_26 rfl ?_
    refine kw_getR C fi_Unpacker_40 rfl rfl ht d_Unpacker_takeSum_27 (fun o38 ho38 => ?_)
    refine kw_bipush (v := 27) C d_Unpacker_takeSum_30 (by decide) ?_
    refine kw_aload_n C d_Unpacker_takeSum_32 rfl ?_
    refine kw_getR C fi_Unpacker_36 rfl rfl ht d_Unpacker_takeSum_33 (fun o39 ho39 => ?_)
    refine kw_iload_n C d_Unpacker_takeSum_36 rfl ?_
    refine kw_callVi (cl' := 0) (sl' := 0) (As := [.int x4]) C (c_PackedBits_placeOf hl n ids ho39 x4 σ2) mi_Unpacker_82 v_PackedBits_placeOf ⟨_, _, rfl⟩ ho39 ⟨Nat.le_of_ble_eq_true rfl, Nat.le_of_ble_eq_true rfl⟩ (Nat.le_of_ble_eq_true rfl) ⟨Nat.le_of_ble_eq_true rfl, Nat.le_of_ble_eq_true rfl⟩ ⟨rfl, rfl⟩ rfl d_Unpacker_takeSum_37 (fun x40 σ41 => ?_)
    refine kw_callVi (cl' := 0) (sl' := 0) (As := [.int 27, .int x40]) C (c_Fault_refuse hl n ids ho38 27 x40 σ41) mi_Unpacker_85 v_Fault_refuse ⟨_, _, rfl⟩ ho38 ⟨Nat.le_of_ble_eq_true rfl, Nat.le_of_ble_eq_true rfl⟩ (Nat.le_of_ble_eq_true rfl) ⟨Nat.le_of_ble_eq_true rfl, Nat.le_of_ble_eq_true rfl⟩ ⟨rfl, rfl⟩ rfl d_Unpacker_takeSum_40 (fun x42 σ43 => ?_)
    exact kw_zret C Ce rfl (by simp) (fun _ _ => rfl) (Nat.le_of_ble_eq_true rfl) (Nat.le_of_ble_eq_true rfl) rfl d_Unpacker_takeSum_43
/-! Unpacker_unpack -/
def rm_Unpacker_unpack : Room := { frames := 5, cells := 0, slots := 0, locals := 129 }
def F_Unpacker_unpack (n : Nat) (t : Nat) (a0 : Int32) (σ : Mm) : Option (Int32 × Mm) :=
kf_let (pS σ (64 * t + 10) a0) fun σ1 =>
kf_let (pS σ1 (64 * t + 11) 0) fun σ2 =>
kf_c2 (F_Unpacker_takeHead n t σ2) fun x3 σ4 =>
if x3 = 0 then (
kf_z 0 (some (0, σ4))) else (
kf_l (α := Int32 × Int32) n (fun k5 x6 σ7 =>
kf_j (α := Unit) (fun x9 σ10 =>
kf_c2 (F_Unpacker_takeSum n t σ10) fun x11 σ12 =>
kf_z x11 (some (x11, σ12))) fun k8 =>
if 524288 ≤ x6.2 then (
k8 () σ7) else (
if x6.1 = 0 then (
Option.bind (gR σ7 (64 * t + 0)) fun o13 =>
kf_c2 (F_PackedBits_number n o13 1 σ7) fun x14 σ15 =>
kf_j (α := Unit) (fun x17 σ18 =>
kf_z 0 (some (0, σ18))) fun k16 =>
if x14 = (-1) then (
k16 () σ15) else (
kf_c2 (F_Unpacker_takeBlock n t σ15) fun x19 σ20 =>
if x19 = 0 then (
k16 () σ20) else (
kf_let (x6.2 + Int32.ofInt 1) fun x21 =>
k5 (x14, x21) σ20))) else (
k8 () σ7))) (0, 0) σ4)
theorem d_Unpacker_unpack_0 : decode prog_11_method_2_code 0 = .ok (.aload_n 0, 1) := by decide +kernel
theorem d_Unpacker_unpack_1 : decode prog_11_method_2_code 1 = .ok (.iload_n 1, 1) := by decide +kernel
theorem d_Unpacker_unpack_2 : decode prog_11_method_2_code 2 = .ok (.putfield 58, 3) := by decide +kernel
theorem d_Unpacker_unpack_5 : decode prog_11_method_2_code 5 = .ok (.aload_n 0, 1) := by decide +kernel
theorem d_Unpacker_unpack_6 : decode prog_11_method_2_code 6 = .ok (.iconst 0, 1) := by decide +kernel
theorem d_Unpacker_unpack_7 : decode prog_11_method_2_code 7 = .ok (.putfield 62, 3) := by decide +kernel
theorem d_Unpacker_unpack_10 : decode prog_11_method_2_code 10 = .ok (.aload_n 0, 1) := by decide +kernel
theorem d_Unpacker_unpack_11 : decode prog_11_method_2_code 11 = .ok (.invokevirtual 65, 3) := by decide +kernel
theorem d_Unpacker_unpack_14 : decode prog_11_method_2_code 14 = .ok (.ifCond .ne 5, 3) := by decide +kernel
theorem d_Unpacker_unpack_17 : decode prog_11_method_2_code 17 = .ok (.iconst 0, 1) := by decide +kernel
theorem d_Unpacker_unpack_18 : decode prog_11_method_2_code 18 = .ok (.ireturn, 1) := by decide +kernel
theorem d_Unpacker_unpack_19 : decode prog_11_method_2_code 19 = .ok (.iconst 0, 1) := by decide +kernel
theorem d_Unpacker_unpack_20 : decode prog_11_method_2_code 20 = .ok (.istore_n 2, 1) := by decide +kernel
theorem d_Unpacker_unpack_21 : decode prog_11_method_2_code 21 = .ok (.iconst 0, 1) := by decide +kernel
theorem d_Unpacker_unpack_22 : decode prog_11_method_2_code 22 = .ok (.istore_n 3, 1) := by decide +kernel
theorem d_Unpacker_unpack_23 : decode prog_11_method_2_code 23 = .ok (.iload_n 3, 1) := by decide +kernel
theorem d_Unpacker_unpack_24 : decode prog_11_method_2_code 24 = .ok (.ldc 69, 2) := by decide +kernel
theorem d_Unpacker_unpack_26 : decode prog_11_method_2_code 26 = .ok (.if_icmp .ge 36, 3) := by decide +kernel
theorem d_Unpacker_unpack_29 : decode prog_11_method_2_code 29 = .ok (.iload_n 2, 1) := by decide +kernel
theorem d_Unpacker_unpack_30 : decode prog_11_method_2_code 30 = .ok (.ifCond .ne 32, 3) := by decide +kernel
theorem d_Unpacker_unpack_33 : decode prog_11_method_2_code 33 = .ok (.aload_n 0, 1) := by decide +kernel
theorem d_Unpacker_unpack_34 : decode prog_11_method_2_code 34 = .ok (.getfield 36, 3) := by decide +kernel
theorem d_Unpacker_unpack_37 : decode prog_11_method_2_code 37 = .ok (.iconst 1, 1) := by decide +kernel
theorem d_Unpacker_unpack_38 : decode prog_11_method_2_code 38 = .ok (.invokevirtual 70, 3) := by decide +kernel
theorem d_Unpacker_unpack_41 : decode prog_11_method_2_code 41 = .ok (.istore_n 2, 1) := by decide +kernel
theorem d_Unpacker_unpack_42 : decode prog_11_method_2_code 42 = .ok (.iload_n 2, 1) := by decide +kernel
theorem d_Unpacker_unpack_43 : decode prog_11_method_2_code 43 = .ok (.iconst (-1), 1) := by decide +kernel
theorem d_Unpacker_unpack_44 : decode prog_11_method_2_code 44 = .ok (.if_icmp .eq 10, 3) := by decide +kernel
theorem d_Unpacker_unpack_47 : decode prog_11_method_2_code 47 = .ok (.aload_n 0, 1) := by decide +kernel
theorem d_Unpacker_unpack_48 : decode prog_11_method_2_code 48 = .ok (.invokevirtual 76, 3) := by decide +kernel
theorem d_Unpacker_unpack_51 : decode prog_11_method_2_code 51 = .ok (.ifCond .ne 5, 3) := by decide +kernel
theorem d_Unpacker_unpack_54 : decode prog_11_method_2_code 54 = .ok (.iconst 0, 1) := by decide +kernel
theorem d_Unpacker_unpack_55 : decode prog_11_method_2_code 55 = .ok (.ireturn, 1) := by decide +kernel
theorem d_Unpacker_unpack_56 : decode prog_11_method_2_code 56 = .ok (.iinc 3 1, 3) := by decide +kernel
theorem d_Unpacker_unpack_59 : decode prog_11_method_2_code 59 = .ok (.goto (-36), 3) := by decide +kernel
theorem d_Unpacker_unpack_62 : decode prog_11_method_2_code 62 = .ok (.aload_n 0, 1) := by decide +kernel
theorem d_Unpacker_unpack_63 : decode prog_11_method_2_code 63 = .ok (.invokevirtual 79, 3) := by decide +kernel
theorem d_Unpacker_unpack_66 : decode prog_11_method_2_code 66 = .ok (.ireturn, 1) := by decide +kernel
set_option maxRecDepth 100000 in
set_option maxHeartbeats 4000000 in
theorem c_Unpacker_unpack {l0 : Launch} (hl : l0.stackTraces = false) (n : Nat) (ids : List Nat) {t : Nat} (ht : mm_ok ids t 1 6) (a0 : Int32) (σ : Mm) : kw_C l0 y_Unpacker_unpack (Cond.code y_Unpacker_unpack prog_11_method_2_code 4 (some .boolean) :: kw_Ts) rm_Unpacker_unpack kw_oi ids [] [.ref t, .int a0] σ (F_Unpacker_unpack n t a0 σ) := by
  refine kw_start (L0 := [some (.ref t), some (.int a0), none, none]) hl (by decide +kernel) (Nat.le_of_ble_eq_true rfl) rfl (fun Γ ad C Ce => ?_)
  unfold F_Unpacker_unpack
  refine kw_aload_n C d_Unpacker_unpack_0 rfl ?_
  refine kw_iload_n C d_Unpacker_unpack_1 rfl ?_
  refine kw_putI C fi_Unpacker_58 rfl ht d_Unpacker_unpack_2 (fun σ1 => ?_)
  refine kw_aload_n C d_Unpacker_unpack_5 rfl ?_
  refine kw_iconst (v := 0) C d_Unpacker_unpack_6 (by decide) ?_
  refine kw_putI C fi_Unpacker_62 rfl ht d_Unpacker_unpack_7 (fun σ2 => ?_)
  refine kw_aload_n C d_Unpacker_unpack_10 rfl ?_
  refine kw_callVi (cl' := 0) (sl' := 0) (As := []) C (c_Unpacker_takeHead hl n ids ht  σ2) mi_Unpacker_65 v_Unpacker_takeHead ⟨_, _, rfl⟩ ht ⟨Nat.le_of_ble_eq_true rfl, Nat.le_of_ble_eq_true rfl⟩ (Nat.le_of_ble_eq_true rfl) ⟨Nat.le_of_ble_eq_true rfl, Nat.le_of_ble_eq_true rfl⟩ ⟨rfl, rfl⟩ rfl d_Unpacker_unpack_11 (fun x3 σ4 => ?_)
  refine kw_if_ne (tgt := 19) C d_Unpacker_unpack_14 (by decide) ?_ ?_
  · refine kw_iconst (v := 0) C d_Unpacker_unpack_19 (by decide) ?_
    refine kw_istore_n (L' := [some (.ref t), some (.int a0), some (.int 0), none]) C d_Unpacker_unpack_20 (by decide) rfl ?_
    refine kw_iconst (v := 0) C d_Unpacker_unpack_21 (by decide) ?_
    refine kw_istore_n (L' := [some (.ref t), some (.int a0), some (.int 0), some (.int 0)]) C d_Unpacker_unpack_22 (by decide) rfl ?_
    refine kw_wk (kw_l (α := Int32 × Int32) (pc := 23) (Lj := fun x6 => [some (.ref t), none, some (.int x6.1), some (.int x6.2)]) (stj := fun x6 => []) (fun k5 hk5 x6 σ7 => ?_) n (0, 0) σ4) ⟨Or.inr rfl, Or.inl rfl, Or.inr rfl, Or.inr rfl, trivial⟩
    refine kw_iload_n C d_Unpacker_unpack_23 rfl ?_
    refine kw_ldc (v := 524288) C d_Unpacker_unpack_24 k_Unpacker_69 ?_
    refine kw_j (α := Unit) (pcj := 62) (Lj := fun x9 => [some (.ref t), none, none, none]) (stj := fun x9 => []) (fun x9 σ10 => ?_) (fun k8 hk8 => ?_)
    · refine kw_aload_n C d_Unpacker_unpack_62 rfl ?_
      refine kw_callVi (cl' := 0) (sl' := 0) (As := []) C (c_Unpacker_takeSum hl n ids ht  σ10) mi_Unpacker_79 v_Unpacker_takeSum ⟨_, _, rfl⟩ ht ⟨Nat.le_of_ble_eq_true rfl, Nat.le_of_ble_eq_true rfl⟩ (Nat.le_of_ble_eq_true rfl) ⟨Nat.le_of_ble_eq_true rfl, Nat.le_of_ble_eq_true rfl⟩ ⟨rfl, rfl⟩ rfl d_Unpacker_unpack_63 (fun x11 σ12 => ?_)
      exact kw_zret C Ce rfl (by simp) (fun _ _ => rfl) (Nat.le_of_ble_eq_true rfl) (Nat.le_of_ble_eq_true rfl) rfl d_Unpacker_unpack_66
    · refine kw_icmp_ge (tgt := 62) C d_Unpacker_unpack_26 (by decide) ?_ ?_
      · exact kw_wk (hk8 () σ7) ⟨Or.inr rfl, Or.inl rfl, Or.inl rfl, Or.inl rfl, trivial⟩
      · refine kw_iload_n C d_Unpacker_unpack_29 rfl ?_
        refine kw_if_ne (tgt := 62) C d_Unpacker_unpack_30 (by decide) ?_ ?_
        · exact kw_wk (hk8 () σ7) ⟨Or.inr rfl, Or.inl rfl, Or.inl rfl, Or.inl rfl, trivial⟩
        · refine kw_aload_n C d_Unpacker_unpack_33 rfl ?_
          refine kw_getR C fi_Unpacker_36 rfl rfl ht d_Unpacker_unpack_34 (fun o13 ho13 => ?_)
          refine kw_iconst (v := 1) C d_Unpacker_unpack_37 (by decide) ?_
          refine kw_callVi (cl' := 0) (sl' := 0) (As := [.int 1]) C (c_PackedBits_number hl n ids ho13 1 σ7) mi_Unpacker_70 v_PackedBits_number ⟨_, _, rfl⟩ ho13 ⟨Nat.le_of_ble_eq_true rfl, Nat.le_of_ble_eq_true rfl⟩ (Nat.le_of_ble_eq_true rfl) ⟨Nat.le_of_ble_eq_true rfl, Nat.le_of_ble_eq_true rfl⟩ ⟨rfl, rfl⟩ rfl d_Unpacker_unpack_38 (fun x14 σ15 => ?_)
          refine kw_istore_n (L' := [some (.ref t), none, some (.int x14), some (.int x6.2)]) C d_Unpacker_unpack_41 (by decide) rfl ?_
          refine kw_iload_n C d_Unpacker_unpack_42 rfl ?_
          refine kw_iconst (v := -1) C d_Unpacker_unpack_43 (by decide) ?_
          refine kw_j (α := Unit) (pcj := 54) (Lj := fun x17 => [none, none, none, none]) (stj := fun x17 => []) (fun x17 σ18 => ?_) (fun k16 hk16 => ?_)
          · refine kw_iconst (v := 0) C d_Unpacker_unpack_54 (by decide) ?_
            exact kw_zret C Ce rfl (by simp) (fun _ _ => rfl) (Nat.le_of_ble_eq_true rfl) (Nat.le_of_ble_eq_true rfl) rfl d_Unpacker_unpack_55
          · refine kw_icmp_eq (tgt := 54) C d_Unpacker_unpack_44 (by decide) ?_ ?_
            · exact kw_wk (hk16 () σ15) ⟨Or.inl rfl, Or.inl rfl, Or.inl rfl, Or.inl rfl, trivial⟩
            · refine kw_aload_n C d_Unpacker_unpack_47 rfl ?_
              refine kw_callVi (cl' := 0) (sl' := 0) (As := []) C (c_Unpacker_takeBlock hl n ids ht  σ15) mi_Unpacker_76 v_Unpacker_takeBlock ⟨_, _, rfl⟩ ht ⟨Nat.le_of_ble_eq_true rfl, Nat.le_of_ble_eq_true rfl⟩ (Nat.le_of_ble_eq_true rfl) ⟨Nat.le_of_ble_eq_true rfl, Nat.le_of_ble_eq_true rfl⟩ ⟨rfl, rfl⟩ rfl d_Unpacker_unpack_48 (fun x19 σ20 => ?_)
              refine kw_if_ne (tgt := 56) C d_Unpacker_unpack_51 (by decide) ?_ ?_
              · refine kw_iincL (L2 := fun x21 => [some (.ref t), none, some (.int x14), some (.int x21)]) C d_Unpacker_unpack_56 (by decide) rfl (fun _ => rfl) (fun x21 => ?_)
                refine kw_goto (tgt := 23) C d_Unpacker_unpack_59 (by decide) ?_
                exact kw_wk (hk5 (x14, x21) σ20) ⟨Or.inr rfl, Or.inl rfl, Or.inr rfl, Or.inr rfl, trivial⟩
              · exact kw_wk (hk16 () σ20) ⟨Or.inl rfl, Or.inl rfl, Or.inl rfl, Or.inl rfl, trivial⟩
  · refine kw_iconst (v := 0) C d_Unpacker_unpack_17 (by decide) ?_
    exact kw_zret C Ce rfl (by simp) (fun _ _ => rfl) (Nat.le_of_ble_eq_true rfl) (Nat.le_of_ble_eq_true rfl) rfl d_Unpacker_unpack_18
/-! Rows_nearest -/
def rm_Rows_nearest : Room := { frames := 1, cells := 0, slots := 0, locals := 21 }
def F_Rows_nearest (n : Nat) (a0 : Int32) (a1 : Int32) (a2 : Int32) (σ : Mm) : Option (Int32 × Mm) :=
kf_let (if 0 ≤ (a1 - a2) then (a1 - a2) else 0 - (a1 - a2) : Int32) fun x1 =>
kf_let (if 0 ≤ (a0 - a2) then (a0 - a2) else 0 - (a0 - a2) : Int32) fun x2 =>
kf_let (if 0 ≤ ((a0 + a1) - ((2 : Int32) * a2)) then ((a0 + a1) - ((2 : Int32) * a2)) else 0 - ((a0 + a1) - ((2 : Int32) * a2)) : Int32) fun x3 =>
kf_j (α := Unit) (fun x5 σ6 =>
kf_j (α := Int32) (fun x8 σ9 =>
some (x8, σ9)) fun k7 =>
if x3 < x2 then (
k7 a2 σ6) else (
k7 a1 σ6)) fun k4 =>
if x2 < x1 then (
k4 () σ) else (
if x3 < x1 then (
k4 () σ) else (
some (a0, σ)))
theorem d_Rows_nearest_0 : decode prog_9_method_9_code 0 = .ok (.iload_n 1, 1) := by decide +kernel
theorem d_Rows_nearest_1 : decode prog_9_method_9_code 1 = .ok (.iload_n 2, 1) := by decide +kernel
theorem d_Rows_nearest_2 : decode prog_9_method_9_code 2 = .ok (.isub, 1) := by decide +kernel
theorem d_Rows_nearest_3 : decode prog_9_method_9_code 3 = .ok (.invokestatic 82, 3) := by decide +kernel
theorem d_Rows_nearest_6 : decode prog_9_method_9_code 6 = .ok (.istore_n 3, 1) := by decide +kernel
theorem d_Rows_nearest_7 : decode prog_9_method_9_code 7 = .ok (.iload_n 0, 1) := by decide +kernel
theorem d_Rows_nearest_8 : decode prog_9_method_9_code 8 = .ok (.iload_n 2, 1) := by decide +kernel
theorem d_Rows_nearest_9 : decode prog_9_method_9_code 9 = .ok (.isub, 1) := by decide +kernel
theorem d_Rows_nearest_10 : decode prog_9_method_9_code 10 = .ok (.invokestatic 82, 3) := by decide +kernel
theorem d_Rows_nearest_13 : decode prog_9_method_9_code 13 = .ok (.istore 4, 2) := by decide +kernel
theorem d_Rows_nearest_15 : decode prog_9_method_9_code 15 = .ok (.iload_n 0, 1) := by decide +kernel
theorem d_Rows_nearest_16 : decode prog_9_method_9_code 16 = .ok (.iload_n 1, 1) := by decide +kernel
theorem d_Rows_nearest_17 : decode prog_9_method_9_code 17 = .ok (.iadd, 1) := by decide +kernel
theorem d_Rows_nearest_18 : decode prog_9_method_9_code 18 = .ok (.iconst 2, 1) := by decide +kernel
theorem d_Rows_nearest_19 : decode prog_9_method_9_code 19 = .ok (.iload_n 2, 1) := by decide +kernel
theorem d_Rows_nearest_20 : decode prog_9_method_9_code 20 = .ok (.imul, 1) := by decide +kernel
theorem d_Rows_nearest_21 : decode prog_9_method_9_code 21 = .ok (.isub, 1) := by decide +kernel
theorem d_Rows_nearest_22 : decode prog_9_method_9_code 22 = .ok (.invokestatic 82, 3) := by decide +kernel
theorem d_Rows_nearest_25 : decode prog_9_method_9_code 25 = .ok (.istore 5, 2) := by decide +kernel
theorem d_Rows_nearest_27 : decode prog_9_method_9_code 27 = .ok (.iload_n 3, 1) := by decide +kernel
theorem d_Rows_nearest_28 : decode prog_9_method_9_code 28 = .ok (.iload 4, 2) := by decide +kernel
theorem d_Rows_nearest_30 : decode prog_9_method_9_code 30 = .ok (.if_icmp .gt 11, 3) := by decide +kernel
theorem d_Rows_nearest_33 : decode prog_9_method_9_code 33 = .ok (.iload_n 3, 1) := by decide +kernel
theorem d_Rows_nearest_34 : decode prog_9_method_9_code 34 = .ok (.iload 5, 2) := by decide +kernel
theorem d_Rows_nearest_36 : decode prog_9_method_9_code 36 = .ok (.if_icmp .gt 5, 3) := by decide +kernel
theorem d_Rows_nearest_39 : decode prog_9_method_9_code 39 = .ok (.iload_n 0, 1) := by decide +kernel
theorem d_Rows_nearest_40 : decode prog_9_method_9_code 40 = .ok (.ireturn, 1) := by decide +kernel
theorem d_Rows_nearest_41 : decode prog_9_method_9_code 41 = .ok (.iload 4, 2) := by decide +kernel
theorem d_Rows_nearest_43 : decode prog_9_method_9_code 43 = .ok (.iload 5, 2) := by decide +kernel
theorem d_Rows_nearest_45 : decode prog_9_method_9_code 45 = .ok (.if_icmp .gt 7, 3) := by decide +kernel
theorem d_Rows_nearest_48 : decode prog_9_method_9_code 48 = .ok (.iload_n 1, 1) := by decide +kernel
theorem d_Rows_nearest_49 : decode prog_9_method_9_code 49 = .ok (.goto 4, 3) := by decide +kernel
theorem d_Rows_nearest_52 : decode prog_9_method_9_code 52 = .ok (.iload_n 2, 1) := by decide +kernel
theorem d_Rows_nearest_53 : decode prog_9_method_9_code 53 = .ok (.ireturn, 1) := by decide +kernel
set_option maxRecDepth 100000 in
set_option maxHeartbeats 4000000 in
theorem c_Rows_nearest {l0 : Launch} (hl : l0.stackTraces = false) (n : Nat) (ids : List Nat)  (a0 : Int32) (a1 : Int32) (a2 : Int32) (σ : Mm) : kw_C l0 y_Rows_nearest (Cond.code y_Rows_nearest prog_9_method_9_code 6 (some .int) :: kw_Ts) rm_Rows_nearest kw_oi ids [] [.int a0, .int a1, .int a2] σ (F_Rows_nearest n a0 a1 a2 σ) := by
  refine kw_start (L0 := [some (.int a0), some (.int a1), some (.int a2), none, none, none]) hl (by decide +kernel) (Nat.le_of_ble_eq_true rfl) rfl (fun Γ ad C Ce => ?_)
  unfold F_Rows_nearest
  refine kw_iload_n C d_Rows_nearest_0 rfl ?_
  refine kw_iload_n C d_Rows_nearest_1 rfl ?_
  refine kw_isub C d_Rows_nearest_2 ?_
  refine kw_mabs C mth_Rows_82 ms_abs in_Math mw_abs (Nat.le_of_ble_eq_true rfl) (Nat.le_of_ble_eq_true rfl) (Nat.le_of_ble_eq_true rfl) (Nat.le_of_ble_eq_true rfl) d_Rows_nearest_3 ?_
  refine kw_leti (fun x1 => ?_)
  refine kw_istore_n (L' := [some (.int a0), some (.int a1), some (.int a2), some (.int x1), none, none]) C d_Rows_nearest_6 (by decide) rfl ?_
  refine kw_iload_n C d_Rows_nearest_7 rfl ?_
  refine kw_iload_n C d_Rows_nearest_8 rfl ?_
  refine kw_isub C d_Rows_nearest_9 ?_
  refine kw_mabs C mth_Rows_82 ms_abs in_Math mw_abs (Nat.le_of_ble_eq_true rfl) (Nat.le_of_ble_eq_true rfl) (Nat.le_of_ble_eq_true rfl) (Nat.le_of_ble_eq_true rfl) d_Rows_nearest_10 ?_
  refine kw_leti (fun x2 => ?_)
  refine kw_istore (L' := [some (.int a0), some (.int a1), some (.int a2), some (.int x1), some (.int x2), none]) C d_Rows_nearest_13 (by decide) rfl ?_
  refine kw_iload_n C d_Rows_nearest_15 rfl ?_
  refine kw_iload_n C d_Rows_nearest_16 rfl ?_
  refine kw_iadd C d_Rows_nearest_17 ?_
  refine kw_iconst (v := 2) C d_Rows_nearest_18 (by decide) ?_
  refine kw_iload_n C d_Rows_nearest_19 rfl ?_
  refine kw_imul C d_Rows_nearest_20 ?_
  refine kw_isub C d_Rows_nearest_21 ?_
  refine kw_mabs C mth_Rows_82 ms_abs in_Math mw_abs (Nat.le_of_ble_eq_true rfl) (Nat.le_of_ble_eq_true rfl) (Nat.le_of_ble_eq_true rfl) (Nat.le_of_ble_eq_true rfl) d_Rows_nearest_22 ?_
  refine kw_leti (fun x3 => ?_)
  refine kw_istore (L' := [some (.int a0), some (.int a1), some (.int a2), some (.int x1), some (.int x2), some (.int x3)]) C d_Rows_nearest_25 (by decide) rfl ?_
  refine kw_iload_n C d_Rows_nearest_27 rfl ?_
  refine kw_iload C d_Rows_nearest_28 rfl ?_
  refine kw_j (α := Unit) (pcj := 41) (Lj := fun x5 => [none, some (.int a1), some (.int a2), none, some (.int x2), some (.int x3)]) (stj := fun x5 => []) (fun x5 σ6 => ?_) (fun k4 hk4 => ?_)
  · refine kw_iload C d_Rows_nearest_41 rfl ?_
    refine kw_iload C d_Rows_nearest_43 rfl ?_
    refine kw_j (α := Int32) (pcj := 53) (Lj := fun x8 => [none, none, none, none, none, none]) (stj := fun x8 => [.int x8]) (fun x8 σ9 => ?_) (fun k7 hk7 => ?_)
    · exact kw_iret C Ce rfl (by simp) (fun _ _ => rfl) (Nat.le_of_ble_eq_true rfl) (Nat.le_of_ble_eq_true rfl) rfl d_Rows_nearest_53
    · refine kw_icmp_gt (tgt := 52) C d_Rows_nearest_45 (by decide) ?_ ?_
      · refine kw_iload_n C d_Rows_nearest_52 rfl ?_
        exact kw_wk (hk7 a2 σ6) ⟨Or.inl rfl, Or.inl rfl, Or.inl rfl, Or.inl rfl, Or.inl rfl, Or.inl rfl, trivial⟩
      · refine kw_iload_n C d_Rows_nearest_48 rfl ?_
        refine kw_goto (tgt := 53) C d_Rows_nearest_49 (by decide) ?_
        exact kw_wk (hk7 a1 σ6) ⟨Or.inl rfl, Or.inl rfl, Or.inl rfl, Or.inl rfl, Or.inl rfl, Or.inl rfl, trivial⟩
  · refine kw_icmp_gt (tgt := 41) C d_Rows_nearest_30 (by decide) ?_ ?_
    · exact kw_wk (hk4 () σ) ⟨Or.inl rfl, Or.inr rfl, Or.inr rfl, Or.inl rfl, Or.inr rfl, Or.inr rfl, trivial⟩
    · refine kw_iload_n C d_Rows_nearest_33 rfl ?_
      refine kw_iload C d_Rows_nearest_34 rfl ?_
      refine kw_icmp_gt (tgt := 41) C d_Rows_nearest_36 (by decide) ?_ ?_
      · exact kw_wk (hk4 () σ) ⟨Or.inl rfl, Or.inr rfl, Or.inr rfl, Or.inl rfl, Or.inr rfl, Or.inr rfl, trivial⟩
      · refine kw_iload_n C d_Rows_nearest_39 rfl ?_
        exact kw_iret C Ce rfl (by simp) (fun _ _ => rfl) (Nat.le_of_ble_eq_true rfl) (Nat.le_of_ble_eq_true rfl) rfl d_Rows_nearest_40
/-! Rows_guess -/
def rm_Rows_guess : Room := { frames := 2, cells := 0, slots := 0, locals := 46 }
def F_Rows_guess (n : Nat) (t : Nat) (r0 : Nat) (a1 : Int32) (a2 : Int32) (a3 : Int32) (σ : Mm) : Option (Int32 × Mm) :=
Option.bind (gR σ (64 * r0 + 7)) fun o1 =>
kf_in a1 (mm_kd o1).2.2 <|
kf_let (((gB σ o1 a1.toNatClampNeg) + 1) + a2 : Int32) fun x2 =>
kf_let (gS σ (64 * r0 + 2) : Int32) fun x3 =>
Option.bind (gR σ (64 * r0 + 9)) fun o4 =>
kf_in a1 (mm_kd o4).2.2 <|
kf_let (gB σ o4 a1.toNatClampNeg : Int32) fun x5 =>
kf_j (α := Int32) (fun x7 σ8 =>
kf_j (α := Int32) (fun x10 σ11 =>
if a3 = 1 then (
some (x7, σ11)) else (
if a3 = 2 then (
some (x10, σ11)) else (
if a3 = 3 then (
kf_nz 2 <|
some ((x7 + x10) / 2, σ11)) else (
if a3 = 4 then (
kf_j (α := Int32 × Int32 × Int32) (fun x16 σ17 =>
kf_c2 (F_Rows_nearest n x16.1 x16.2.1 x16.2.2 σ17) fun x18 σ19 =>
some (x18, σ19)) fun k15 =>
kf_j (α := Int32 × Int32) (fun x21 σ22 =>
k15 (x21.1, x21.2, 0) σ22) fun k20 =>
if a2 < x3 then (
k20 (x7, x10) σ11) else (
if x5 ≤ 0 then (
k20 (x7, x10) σ11) else (
Option.bind (gR σ11 (64 * t + 1)) fun o23 =>
kf_let ((x2 - x5) - x3 : Int32) fun x24 =>
kf_in x24 (mm_kd o23).2.2 <|
k15 (x7, x10, gB σ11 o23 x24.toNatClampNeg) σ11))) else (
some (0, σ11)))))) fun k9 =>
if x5 ≤ 0 then (
k9 0 σ8) else (
Option.bind (gR σ8 (64 * t + 1)) fun o26 =>
kf_let (x2 - x5 : Int32) fun x27 =>
kf_in x27 (mm_kd o26).2.2 <|
k9 (gB σ8 o26 x27.toNatClampNeg) σ8)) fun k6 =>
if a2 < x3 then (
k6 0 σ) else (
Option.bind (gR σ (64 * t + 1)) fun o28 =>
kf_let (x2 - x3 : Int32) fun x29 =>
kf_in x29 (mm_kd o28).2.2 <|
k6 (gB σ o28 x29.toNatClampNeg) σ)
theorem d_Rows_guess_0 : decode prog_9_method_8_code 0 = .ok (.aload_n 1, 1) := by decide +kernel
theorem d_Rows_guess_1 : decode prog_9_method_8_code 1 = .ok (.getfield 25, 3) := by decide +kernel
theorem d_Rows_guess_4 : decode prog_9_method_8_code 4 = .ok (.iload_n 2, 1) := by decide +kernel
theorem d_Rows_guess_5 : decode prog_9_method_8_code 5 = .ok (.iaload, 1) := by decide +kernel
theorem d_Rows_guess_6 : decode prog_9_method_8_code 6 = .ok (.iconst 1, 1) := by decide +kernel
theorem d_Rows_guess_7 : decode prog_9_method_8_code 7 = .ok (.iadd, 1) := by decide +kernel
theorem d_Rows_guess_8 : decode prog_9_method_8_code 8 = .ok (.iload_n 3, 1) := by decide +kernel
theorem d_Rows_guess_9 : decode prog_9_method_8_code 9 = .ok (.iadd, 1) := by decide +kernel
theorem d_Rows_guess_10 : decode prog_9_method_8_code 10 = .ok (.istore 5, 2) := by decide +kernel
theorem d_Rows_guess_12 : decode prog_9_method_8_code 12 = .ok (.aload_n 1, 1) := by decide +kernel
theorem d_Rows_guess_13 : decode prog_9_method_8_code 13 = .ok (.getfield 73, 3) := by decide +kernel
theorem d_Rows_guess_16 : decode prog_9_method_8_code 16 = .ok (.istore 6, 2) := by decide +kernel
theorem d_Rows_guess_18 : decode prog_9_method_8_code 18 = .ok (.aload_n 1, 1) := by decide +kernel
theorem d_Rows_guess_19 : decode prog_9_method_8_code 19 = .ok (.getfield 76, 3) := by decide +kernel
theorem d_Rows_guess_22 : decode prog_9_method_8_code 22 = .ok (.iload_n 2, 1) := by decide +kernel
theorem d_Rows_guess_23 : decode prog_9_method_8_code 23 = .ok (.iaload, 1) := by decide +kernel
theorem d_Rows_guess_24 : decode prog_9_method_8_code 24 = .ok (.istore 7, 2) := by decide +kernel
theorem d_Rows_guess_26 : decode prog_9_method_8_code 26 = .ok (.iload_n 3, 1) := by decide +kernel
theorem d_Rows_guess_27 : decode prog_9_method_8_code 27 = .ok (.iload 6, 2) := by decide +kernel
theorem d_Rows_guess_29 : decode prog_9_method_8_code 29 = .ok (.if_icmp .lt 16, 3) := by decide +kernel
theorem d_Rows_guess_32 : decode prog_9_method_8_code 32 = .ok (.aload_n 0, 1) := by decide +kernel
theorem d_Rows_guess_33 : decode prog_9_method_8_code 33 = .ok (.getfield 16, 3) := by decide +kernel
theorem d_Rows_guess_36 : decode prog_9_method_8_code 36 = .ok (.iload 5, 2) := by decide +kernel
theorem d_Rows_guess_38 : decode prog_9_method_8_code 38 = .ok (.iload 6, 2) := by decide +kernel
theorem d_Rows_guess_40 : decode prog_9_method_8_code 40 = .ok (.isub, 1) := by decide +kernel
theorem d_Rows_guess_41 : decode prog_9_method_8_code 41 = .ok (.iaload, 1) := by decide +kernel
theorem d_Rows_guess_42 : decode prog_9_method_8_code 42 = .ok (.goto 4, 3) := by decide +kernel
theorem d_Rows_guess_45 : decode prog_9_method_8_code 45 = .ok (.iconst 0, 1) := by decide +kernel
theorem d_Rows_guess_46 : decode prog_9_method_8_code 46 = .ok (.istore 8, 2) := by decide +kernel
theorem d_Rows_guess_48 : decode prog_9_method_8_code 48 = .ok (.iload 7, 2) := by decide +kernel
theorem d_Rows_guess_50 : decode prog_9_method_8_code 50 = .ok (.ifCond .le 16, 3) := by decide +kernel
theorem d_Rows_guess_53 : decode prog_9_method_8_code 53 = .ok (.aload_n 0, 1) := by decide +kernel
theorem d_Rows_guess_54 : decode prog_9_method_8_code 54 = .ok (.getfield 16, 3) := by decide +kernel
theorem d_Rows_guess_57 : decode prog_9_method_8_code 57 = .ok (.iload 5, 2) := by decide +kernel
theorem d_Rows_guess_59 : decode prog_9_method_8_code 59 = .ok (.iload 7, 2) := by decide +kernel
theorem d_Rows_guess_61 : decode prog_9_method_8_code 61 = .ok (.isub, 1) := by decide +kernel
theorem d_Rows_guess_62 : decode prog_9_method_8_code 62 = .ok (.iaload, 1) := by decide +kernel
theorem d_Rows_guess_63 : decode prog_9_method_8_code 63 = .ok (.goto 4, 3) := by decide +kernel
theorem d_Rows_guess_66 : decode prog_9_method_8_code 66 = .ok (.iconst 0, 1) := by decide +kernel
theorem d_Rows_guess_67 : decode prog_9_method_8_code 67 = .ok (.istore 9, 2) := by decide +kernel
theorem d_Rows_guess_69 : decode prog_9_method_8_code 69 = .ok (.iload 4, 2) := by decide +kernel
theorem d_Rows_guess_71 : decode prog_9_method_8_code 71 = .ok (.tableswitch 79 1 4 #[29, 32, 35, 43], 29) := by decide +kernel
theorem d_Rows_guess_100 : decode prog_9_method_8_code 100 = .ok (.iload 8, 2) := by decide +kernel
theorem d_Rows_guess_102 : decode prog_9_method_8_code 102 = .ok (.ireturn, 1) := by decide +kernel
theorem d_Rows_guess_103 : decode prog_9_method_8_code 103 = .ok (.iload 9, 2) := by decide +kernel
theorem d_Rows_guess_105 : decode prog_9_method_8_code 105 = .ok (.ireturn, 1) := by decide +kernel
theorem d_Rows_guess_106 : decode prog_9_method_8_code 106 = .ok (.iload 8, 2) := by decide +kernel
theorem d_Rows_guess_108 : decode prog_9_method_8_code 108 = .ok (.iload 9, 2) := by decide +kernel
theorem d_Rows_guess_110 : decode prog_9_method_8_code 110 = .ok (.iadd, 1) := by decide +kernel
theorem d_Rows_guess_111 : decode prog_9_method_8_code 111 = .ok (.iconst 2, 1) := by decide +kernel
theorem d_Rows_guess_112 : decode prog_9_method_8_code 112 = .ok (.idiv, 1) := by decide +kernel
theorem d_Rows_guess_113 : decode prog_9_method_8_code 113 = .ok (.ireturn, 1) := by decide +kernel
theorem d_Rows_guess_114 : decode prog_9_method_8_code 114 = .ok (.iload 8, 2) := by decide +kernel
theorem d_Rows_guess_116 : decode prog_9_method_8_code 116 = .ok (.iload 9, 2) := by decide +kernel
theorem d_Rows_guess_118 : decode prog_9_method_8_code 118 = .ok (.iload_n 3, 1) := by decide +kernel
theorem d_Rows_guess_119 : decode prog_9_method_8_code 119 = .ok (.iload 6, 2) := by decide +kernel
theorem d_Rows_guess_121 : decode prog_9_method_8_code 121 = .ok (.if_icmp .lt 24, 3) := by decide +kernel
theorem d_Rows_guess_124 : decode prog_9_method_8_code 124 = .ok (.iload 7, 2) := by decide +kernel
theorem d_Rows_guess_126 : decode prog_9_method_8_code 126 = .ok (.ifCond .le 19, 3) := by decide +kernel
theorem d_Rows_guess_129 : decode prog_9_method_8_code 129 = .ok (.aload_n 0, 1) := by decide +kernel
theorem d_Rows_guess_130 : decode prog_9_method_8_code 130 = .ok (.getfield 16, 3) := by decide +kernel
theorem d_Rows_guess_133 : decode prog_9_method_8_code 133 = .ok (.iload 5, 2) := by decide +kernel
theorem d_Rows_guess_135 : decode prog_9_method_8_code 135 = .ok (.iload 7, 2) := by decide +kernel
theorem d_Rows_guess_137 : decode prog_9_method_8_code 137 = .ok (.isub, 1) := by decide +kernel
theorem d_Rows_guess_138 : decode prog_9_method_8_code 138 = .ok (.iload 6, 2) := by decide +kernel
theorem d_Rows_guess_140 : decode prog_9_method_8_code 140 = .ok (.isub, 1) := by decide +kernel
theorem d_Rows_guess_141 : decode prog_9_method_8_code 141 = .ok (.iaload, 1) := by decide +kernel
theorem d_Rows_guess_142 : decode prog_9_method_8_code 142 = .ok (.goto 4, 3) := by decide +kernel
theorem d_Rows_guess_145 : decode prog_9_method_8_code 145 = .ok (.iconst 0, 1) := by decide +kernel
theorem d_Rows_guess_146 : decode prog_9_method_8_code 146 = .ok (.invokestatic 79, 3) := by decide +kernel
theorem d_Rows_guess_149 : decode prog_9_method_8_code 149 = .ok (.ireturn, 1) := by decide +kernel
theorem d_Rows_guess_150 : decode prog_9_method_8_code 150 = .ok (.iconst 0, 1) := by decide +kernel
theorem d_Rows_guess_151 : decode prog_9_method_8_code 151 = .ok (.ireturn, 1) := by decide +kernel
set_option maxRecDepth 100000 in
set_option maxHeartbeats 4000000 in
theorem c_Rows_guess {l0 : Launch} (hl : l0.stackTraces = false) (n : Nat) (ids : List Nat) {t : Nat} (ht : mm_ok ids t 1 3) {r0 : Nat} (hr0 : mm_ok ids r0 1 11) (a1 : Int32) (a2 : Int32) (a3 : Int32) (σ : Mm) : kw_C l0 y_Rows_guess (Cond.code y_Rows_guess prog_9_method_8_code 10 (some .int) :: kw_Ts) rm_Rows_guess kw_oi ids [] [.ref t, .ref r0, .int a1, .int a2, .int a3] σ (F_Rows_guess n t r0 a1 a2 a3 σ) := by
  refine kw_start (L0 := [some (.ref t), some (.ref r0), some (.int a1), some (.int a2), some (.int a3), none, none, none, none, none]) hl (by decide +kernel) (Nat.le_of_ble_eq_true rfl) rfl (fun Γ ad C Ce => ?_)
  unfold F_Rows_guess
  refine kw_aload_n C d_Rows_guess_0 rfl ?_
  refine kw_getR C fi_Rows_25 rfl rfl hr0 d_Rows_guess_1 (fun o1 ho1 => ?_)
  refine kw_iload_n C d_Rows_guess_4 rfl ?_
  refine kw_iald C (Or.inl ⟨ho1.1, ho1.2.1⟩) d_Rows_guess_5 ?_
  refine kw_iconst (v := 1) C d_Rows_guess_6 (by decide) ?_
  refine kw_iadd C d_Rows_guess_7 ?_
  refine kw_iload_n C d_Rows_guess_8 rfl ?_
  refine kw_iadd C d_Rows_guess_9 ?_
  refine kw_leti (fun x2 => ?_)
  refine kw_istore (L' := [some (.ref t), some (.ref r0), some (.int a1), some (.int a2), some (.int a3), some (.int x2), none, none, none, none]) C d_Rows_guess_10 (by decide) rfl ?_
  refine kw_aload_n C d_Rows_guess_12 rfl ?_
  refine kw_getI C fi_Rows_73 (Or.inl rfl) hr0 d_Rows_guess_13 ?_
  refine kw_leti (fun x3 => ?_)
  refine kw_istore (L' := [some (.ref t), some (.ref r0), some (.int a1), some (.int a2), some (.int a3), some (.int x2), some (.int x3), none, none, none]) C d_Rows_guess_16 (by decide) rfl ?_
  refine kw_aload_n C d_Rows_guess_18 rfl ?_
  refine kw_getR C fi_Rows_76 rfl rfl hr0 d_Rows_guess_19 (fun o4 ho4 => ?_)
  refine kw_iload_n C d_Rows_guess_22 rfl ?_
  refine kw_iald C (Or.inl ⟨ho4.1, ho4.2.1⟩) d_Rows_guess_23 ?_
  refine kw_leti (fun x5 => ?_)
  refine kw_istore (L' := [some (.ref t), some (.ref r0), some (.int a1), some (.int a2), some (.int a3), some (.int x2), some (.int x3), some (.int x5), none, none]) C d_Rows_guess_24 (by decide) rfl ?_
  refine kw_iload_n C d_Rows_guess_26 rfl ?_
  refine kw_iload C d_Rows_guess_27 rfl ?_
  refine kw_j (α := Int32) (pcj := 46) (Lj := fun x7 => [some (.ref t), none, none, some (.int a2), some (.int a3), some (.int x2), some (.int x3), some (.int x5), none, none]) (stj := fun x7 => [.int x7]) (fun x7 σ8 => ?_) (fun k6 hk6 => ?_)
  · refine kw_istore (L' := [some (.ref t), none, none, some (.int a2), some (.int a3), some (.int x2), some (.int x3), some (.int x5), some (.int x7), none]) C d_Rows_guess_46 (by decide) rfl ?_
    refine kw_iload C d_Rows_guess_48 rfl ?_
    refine kw_j (α := Int32) (pcj := 67) (Lj := fun x10 => [some (.ref t), none, none, some (.int a2), some (.int a3), some (.int x2), some (.int x3), some (.int x5), some (.int x7), none]) (stj := fun x10 => [.int x10]) (fun x10 σ11 => ?_) (fun k9 hk9 => ?_)
    · refine kw_istore (L' := [some (.ref t), none, none, some (.int a2), some (.int a3), some (.int x2), some (.int x3), some (.int x5), some (.int x7), some (.int x10)]) C d_Rows_guess_67 (by decide) rfl ?_
      refine kw_iload C d_Rows_guess_69 rfl ?_
      refine kw_sw ?_ (fun hn12 => ?_)
      · refine kw_tsIn (off := 29) (tgt := 100) C d_Rows_guess_71 (by decide) (by decide) (by decide) (by decide) ?_
        refine kw_iload C d_Rows_guess_100 rfl ?_
        exact kw_iret C Ce rfl (by simp) (fun _ _ => rfl) (Nat.le_of_ble_eq_true rfl) (Nat.le_of_ble_eq_true rfl) rfl d_Rows_guess_102
      refine kw_sw ?_ (fun hn13 => ?_)
      · refine kw_tsIn (off := 32) (tgt := 103) C d_Rows_guess_71 (by decide) (by decide) (by decide) (by decide) ?_
        refine kw_iload C d_Rows_guess_103 rfl ?_
        exact kw_iret C Ce rfl (by simp) (fun _ _ => rfl) (Nat.le_of_ble_eq_true rfl) (Nat.le_of_ble_eq_true rfl) rfl d_Rows_guess_105
      refine kw_sw ?_ (fun hn14 => ?_)
      · refine kw_tsIn (off := 35) (tgt := 106) C d_Rows_guess_71 (by decide) (by decide) (by decide) (by decide) ?_
        refine kw_iload C d_Rows_guess_106 rfl ?_
        refine kw_iload C d_Rows_guess_108 rfl ?_
        refine kw_iadd C d_Rows_guess_110 ?_
        refine kw_iconst (v := 2) C d_Rows_guess_111 (by decide) ?_
        refine kw_idiv C d_Rows_guess_112 ?_
        exact kw_iret C Ce rfl (by simp) (fun _ _ => rfl) (Nat.le_of_ble_eq_true rfl) (Nat.le_of_ble_eq_true rfl) rfl d_Rows_guess_113
      refine kw_sw ?_ (fun hn25 => ?_)
      · refine kw_tsIn (off := 43) (tgt := 114) C d_Rows_guess_71 (by decide) (by decide) (by decide) (by decide) ?_
        refine kw_iload C d_Rows_guess_114 rfl ?_
        refine kw_iload C d_Rows_guess_116 rfl ?_
        refine kw_iload_n C d_Rows_guess_118 rfl ?_
        refine kw_iload C d_Rows_guess_119 rfl ?_
        refine kw_j (α := Int32 × Int32 × Int32) (pcj := 146) (Lj := fun x16 => [none, none, none, none, none, none, none, none, none, none]) (stj := fun x16 => [.int x16.2.2, .int x16.2.1, .int x16.1]) (fun x16 σ17 => ?_) (fun k15 hk15 => ?_)
        · refine kw_callSi (cl' := 0) (sl' := 0) (As := [.int x16.1, .int x16.2.1, .int x16.2.2]) C (c_Rows_nearest hl n ids  x16.1 x16.2.1 x16.2.2 σ17) mi_Rows_79 s_Rows_nearest ⟨Nat.le_of_ble_eq_true rfl, Nat.le_of_ble_eq_true rfl⟩ (Nat.le_of_ble_eq_true rfl) ⟨Nat.le_of_ble_eq_true rfl, Nat.le_of_ble_eq_true rfl⟩ ⟨rfl, rfl⟩ rfl d_Rows_guess_146 (fun x18 σ19 => ?_)
          exact kw_iret C Ce rfl (by simp) (fun _ _ => rfl) (Nat.le_of_ble_eq_true rfl) (Nat.le_of_ble_eq_true rfl) rfl d_Rows_guess_149
        · refine kw_j (α := Int32 × Int32) (pcj := 145) (Lj := fun x21 => [none, none, none, none, none, none, none, none, none, none]) (stj := fun x21 => [.int x21.2, .int x21.1]) (fun x21 σ22 => ?_) (fun k20 hk20 => ?_)
          · refine kw_iconst (v := 0) C d_Rows_guess_145 (by decide) ?_
            exact kw_wk (hk15 (x21.1, x21.2, 0) σ22) ⟨Or.inl rfl, Or.inl rfl, Or.inl rfl, Or.inl rfl, Or.inl rfl, Or.inl rfl, Or.inl rfl, Or.inl rfl, Or.inl rfl, Or.inl rfl, trivial⟩
          · refine kw_icmp_lt (tgt := 145) C d_Rows_guess_121 (by decide) ?_ ?_
            · exact kw_wk (hk20 (x7, x10) σ11) ⟨Or.inl rfl, Or.inl rfl, Or.inl rfl, Or.inl rfl, Or.inl rfl, Or.inl rfl, Or.inl rfl, Or.inl rfl, Or.inl rfl, Or.inl rfl, trivial⟩
            · refine kw_iload C d_Rows_guess_124 rfl ?_
              refine kw_if_le (tgt := 145) C d_Rows_guess_126 (by decide) ?_ ?_
              · exact kw_wk (hk20 (x7, x10) σ11) ⟨Or.inl rfl, Or.inl rfl, Or.inl rfl, Or.inl rfl, Or.inl rfl, Or.inl rfl, Or.inl rfl, Or.inl rfl, Or.inl rfl, Or.inl rfl, trivial⟩
              · refine kw_aload_n C d_Rows_guess_129 rfl ?_
                refine kw_getR C fi_Rows_16 rfl rfl ht d_Rows_guess_130 (fun o23 ho23 => ?_)
                refine kw_iload C d_Rows_guess_133 rfl ?_
                refine kw_iload C d_Rows_guess_135 rfl ?_
                refine kw_isub C d_Rows_guess_137 ?_
                refine kw_iload C d_Rows_guess_138 rfl ?_
                refine kw_isub C d_Rows_guess_140 ?_
                refine kw_leti (fun x24 => ?_)
                refine kw_iald C (Or.inl ⟨ho23.1, ho23.2.1⟩) d_Rows_guess_141 ?_
                refine kw_goto (tgt := 146) C d_Rows_guess_142 (by decide) ?_
                exact kw_wk (hk15 (x7, x10, gB σ11 o23 x24.toNatClampNeg) σ11) ⟨Or.inl rfl, Or.inl rfl, Or.inl rfl, Or.inl rfl, Or.inl rfl, Or.inl rfl, Or.inl rfl, Or.inl rfl, Or.inl rfl, Or.inl rfl, trivial⟩
      · refine kw_tsOut (tgt := 150) C d_Rows_guess_71 (kw_tso (lo := 1) (hi := 4) a3 (fun k h1 h2 => by rcases (show k = 1 ∨ k = 2 ∨ k = 3 ∨ k = 4 by omega) with rfl | rfl | rfl | rfl; exact kw_ni hn12 (by decide); exact kw_ni hn13 (by decide); exact kw_ni hn14 (by decide); exact kw_ni hn25 (by decide))) (by decide) ?_
        refine kw_iconst (v := 0) C d_Rows_guess_150 (by decide) ?_
        exact kw_iret C Ce rfl (by simp) (fun _ _ => rfl) (Nat.le_of_ble_eq_true rfl) (Nat.le_of_ble_eq_true rfl) rfl d_Rows_guess_151
    · refine kw_if_le (tgt := 66) C d_Rows_guess_50 (by decide) ?_ ?_
      · refine kw_iconst (v := 0) C d_Rows_guess_66 (by decide) ?_
        exact kw_wk (hk9 0 σ8) ⟨Or.inr rfl, Or.inl rfl, Or.inl rfl, Or.inr rfl, Or.inr rfl, Or.inr rfl, Or.inr rfl, Or.inr rfl, Or.inr rfl, Or.inl rfl, trivial⟩
      · refine kw_aload_n C d_Rows_guess_53 rfl ?_
        refine kw_getR C fi_Rows_16 rfl rfl ht d_Rows_guess_54 (fun o26 ho26 => ?_)
        refine kw_iload C d_Rows_guess_57 rfl ?_
        refine kw_iload C d_Rows_guess_59 rfl ?_
        refine kw_isub C d_Rows_guess_61 ?_
        refine kw_leti (fun x27 => ?_)
        refine kw_iald C (Or.inl ⟨ho26.1, ho26.2.1⟩) d_Rows_guess_62 ?_
        refine kw_goto (tgt := 67) C d_Rows_guess_63 (by decide) ?_
        exact kw_wk (hk9 (gB σ8 o26 x27.toNatClampNeg) σ8) ⟨Or.inr rfl, Or.inl rfl, Or.inl rfl, Or.inr rfl, Or.inr rfl, Or.inr rfl, Or.inr rfl, Or.inr rfl, Or.inr rfl, Or.inl rfl, trivial⟩
  · refine kw_icmp_lt (tgt := 45) C d_Rows_guess_29 (by decide) ?_ ?_
    · refine kw_iconst (v := 0) C d_Rows_guess_45 (by decide) ?_
      exact kw_wk (hk6 0 σ) ⟨Or.inr rfl, Or.inl rfl, Or.inl rfl, Or.inr rfl, Or.inr rfl, Or.inr rfl, Or.inr rfl, Or.inr rfl, Or.inl rfl, Or.inl rfl, trivial⟩
    · refine kw_aload_n C d_Rows_guess_32 rfl ?_
      refine kw_getR C fi_Rows_16 rfl rfl ht d_Rows_guess_33 (fun o28 ho28 => ?_)
      refine kw_iload C d_Rows_guess_36 rfl ?_
      refine kw_iload C d_Rows_guess_38 rfl ?_
      refine kw_isub C d_Rows_guess_40 ?_
      refine kw_leti (fun x29 => ?_)
      refine kw_iald C (Or.inl ⟨ho28.1, ho28.2.1⟩) d_Rows_guess_41 ?_
      refine kw_goto (tgt := 46) C d_Rows_guess_42 (by decide) ?_
      exact kw_wk (hk6 (gB σ o28 x29.toNatClampNeg) σ) ⟨Or.inr rfl, Or.inl rfl, Or.inl rfl, Or.inr rfl, Or.inr rfl, Or.inr rfl, Or.inr rfl, Or.inr rfl, Or.inl rfl, Or.inl rfl, trivial⟩
/-! Picture_indexOf -/
def rm_Picture_indexOf : Room := { frames := 0, cells := 0, slots := 0, locals := 0 }
def F_Picture_indexOf (n : Nat) (t : Nat) (a0 : Int32) (a1 : Int32) (σ : Mm) : Option (Int32 × Mm) :=
some (((a1 * (gS σ (64 * t + 0))) + a0) * (gS σ (64 * t + 5)), σ)
theorem d_Picture_indexOf_0 : decode prog_7_method_9_code 0 = .ok (.iload_n 2, 1) := by decide +kernel
theorem d_Picture_indexOf_1 : decode prog_7_method_9_code 1 = .ok (.aload_n 0, 1) := by decide +kernel
theorem d_Picture_indexOf_2 : decode prog_7_method_9_code 2 = .ok (.getfield 30, 3) := by decide +kernel
theorem d_Picture_indexOf_5 : decode prog_7_method_9_code 5 = .ok (.imul, 1) := by decide +kernel
theorem d_Picture_indexOf_6 : decode prog_7_method_9_code 6 = .ok (.iload_n 1, 1) := by decide +kernel
theorem d_Picture_indexOf_7 : decode prog_7_method_9_code 7 = .ok (.iadd, 1) := by decide +kernel
theorem d_Picture_indexOf_8 : decode prog_7_method_9_code 8 = .ok (.aload_n 0, 1) := by decide +kernel
theorem d_Picture_indexOf_9 : decode prog_7_method_9_code 9 = .ok (.getfield 51, 3) := by decide +kernel
theorem d_Picture_indexOf_12 : decode prog_7_method_9_code 12 = .ok (.imul, 1) := by decide +kernel
theorem d_Picture_indexOf_13 : decode prog_7_method_9_code 13 = .ok (.ireturn, 1) := by decide +kernel
set_option maxRecDepth 100000 in
set_option maxHeartbeats 4000000 in
theorem c_Picture_indexOf {l0 : Launch} (hl : l0.stackTraces = false) (n : Nat) (ids : List Nat) {t : Nat} (ht : mm_ok ids t 1 10) (a0 : Int32) (a1 : Int32) (σ : Mm) : kw_C l0 y_Picture_indexOf (Cond.code y_Picture_indexOf prog_7_method_9_code 3 (some .int) :: kw_Ts) rm_Picture_indexOf kw_oi ids [] [.ref t, .int a0, .int a1] σ (F_Picture_indexOf n t a0 a1 σ) := by
  refine kw_start (L0 := [some (.ref t), some (.int a0), some (.int a1)]) hl (by decide +kernel) (Nat.le_of_ble_eq_true rfl) rfl (fun Γ ad C Ce => ?_)
  unfold F_Picture_indexOf
  refine kw_iload_n C d_Picture_indexOf_0 rfl ?_
  refine kw_aload_n C d_Picture_indexOf_1 rfl ?_
  refine kw_getI C fi_Picture_30 (Or.inl rfl) ht d_Picture_indexOf_2 ?_
  refine kw_imul C d_Picture_indexOf_5 ?_
  refine kw_iload_n C d_Picture_indexOf_6 rfl ?_
  refine kw_iadd C d_Picture_indexOf_7 ?_
  refine kw_aload_n C d_Picture_indexOf_8 rfl ?_
  refine kw_getI C fi_Picture_51 (Or.inl rfl) ht d_Picture_indexOf_9 ?_
  refine kw_imul C d_Picture_indexOf_12 ?_
  exact kw_iret C Ce rfl (by simp) (fun _ _ => rfl) (Nat.le_of_ble_eq_true rfl) (Nat.le_of_ble_eq_true rfl) rfl d_Picture_indexOf_13
/-! Rows_sampleAt -/
def rm_Rows_sampleAt : Room := { frames := 0, cells := 0, slots := 0, locals := 0 }
def F_Rows_sampleAt (n : Nat) (t : Nat) (a0 : Int32) (a1 : Int32) (a2 : Int32) (σ : Mm) : Option (Int32 × Mm) :=
if a2 = 16 then (
Option.bind (gR σ (64 * t + 1)) fun o4 =>
kf_let (a0 + ((2 : Int32) * a1) : Int32) fun x5 =>
kf_in x5 (mm_kd o4).2.2 <|
Option.bind (gR σ (64 * t + 1)) fun o6 =>
kf_let ((a0 + ((2 : Int32) * a1)) + 1 : Int32) fun x7 =>
kf_in x7 (mm_kd o6).2.2 <|
some (((gB σ o4 x5.toNatClampNeg) <<< (8 &&& 31)) ||| (gB σ o6 x7.toNatClampNeg), σ)) else (
kf_let (a1 * a2 : Int32) fun x1 =>
Option.bind (gR σ (64 * t + 1)) fun o2 =>
kf_nz 8 <|
kf_let (a0 + (x1 / 8) : Int32) fun x3 =>
kf_in x3 (mm_kd o2).2.2 <|
kf_nz 8 <|
some (((gB σ o2 x3.toNatClampNeg) >>> ((((8 : Int32) - a2) - (x1 - x1 / 8 * 8)) &&& 31)) &&& (((1 : Int32) <<< (a2 &&& 31)) - 1), σ))
theorem d_Rows_sampleAt_0 : decode prog_9_method_5_code 0 = .ok (.iload_n 3, 1) := by decide +kernel
theorem d_Rows_sampleAt_1 : decode prog_9_method_5_code 1 = .ok (.bipush 16, 2) := by decide +kernel
theorem d_Rows_sampleAt_3 : decode prog_9_method_5_code 3 = .ok (.if_icmp .ne 30, 3) := by decide +kernel
theorem d_Rows_sampleAt_6 : decode prog_9_method_5_code 6 = .ok (.aload_n 0, 1) := by decide +kernel
theorem d_Rows_sampleAt_7 : decode prog_9_method_5_code 7 = .ok (.getfield 16, 3) := by decide +kernel
theorem d_Rows_sampleAt_10 : decode prog_9_method_5_code 10 = .ok (.iload_n 1, 1) := by decide +kernel
theorem d_Rows_sampleAt_11 : decode prog_9_method_5_code 11 = .ok (.iconst 2, 1) := by decide +kernel
theorem d_Rows_sampleAt_12 : decode prog_9_method_5_code 12 = .ok (.iload_n 2, 1) := by decide +kernel
theorem d_Rows_sampleAt_13 : decode prog_9_method_5_code 13 = .ok (.imul, 1) := by decide +kernel
theorem d_Rows_sampleAt_14 : decode prog_9_method_5_code 14 = .ok (.iadd, 1) := by decide +kernel
theorem d_Rows_sampleAt_15 : decode prog_9_method_5_code 15 = .ok (.iaload, 1) := by decide +kernel
theorem d_Rows_sampleAt_16 : decode prog_9_method_5_code 16 = .ok (.bipush 8, 2) := by decide +kernel
theorem d_Rows_sampleAt_18 : decode prog_9_method_5_code 18 = .ok (.ishl, 1) := by decide +kernel
theorem d_Rows_sampleAt_19 : decode prog_9_method_5_code 19 = .ok (.aload_n 0, 1) := by decide +kernel
theorem d_Rows_sampleAt_20 : decode prog_9_method_5_code 20 = .ok (.getfield 16, 3) := by decide +kernel
theorem d_Rows_sampleAt_23 : decode prog_9_method_5_code 23 = .ok (.iload_n 1, 1) := by decide +kernel
theorem d_Rows_sampleAt_24 : decode prog_9_method_5_code 24 = .ok (.iconst 2, 1) := by decide +kernel
theorem d_Rows_sampleAt_25 : decode prog_9_method_5_code 25 = .ok (.iload_n 2, 1) := by decide +kernel
theorem d_Rows_sampleAt_26 : decode prog_9_method_5_code 26 = .ok (.imul, 1) := by decide +kernel
theorem d_Rows_sampleAt_27 : decode prog_9_method_5_code 27 = .ok (.iadd, 1) := by decide +kernel
theorem d_Rows_sampleAt_28 : decode prog_9_method_5_code 28 = .ok (.iconst 1, 1) := by decide +kernel
theorem d_Rows_sampleAt_29 : decode prog_9_method_5_code 29 = .ok (.iadd, 1) := by decide +kernel
theorem d_Rows_sampleAt_30 : decode prog_9_method_5_code 30 = .ok (.iaload, 1) := by decide +kernel
theorem d_Rows_sampleAt_31 : decode prog_9_method_5_code 31 = .ok (.ior, 1) := by decide +kernel
theorem d_Rows_sampleAt_32 : decode prog_9_method_5_code 32 = .ok (.ireturn, 1) := by decide +kernel
theorem d_Rows_sampleAt_33 : decode prog_9_method_5_code 33 = .ok (.iload_n 2, 1) := by decide +kernel
theorem d_Rows_sampleAt_34 : decode prog_9_method_5_code 34 = .ok (.iload_n 3, 1) := by decide +kernel
theorem d_Rows_sampleAt_35 : decode prog_9_method_5_code 35 = .ok (.imul, 1) := by decide +kernel
theorem d_Rows_sampleAt_36 : decode prog_9_method_5_code 36 = .ok (.istore 4, 2) := by decide +kernel
theorem d_Rows_sampleAt_38 : decode prog_9_method_5_code 38 = .ok (.aload_n 0, 1) := by decide +kernel
theorem d_Rows_sampleAt_39 : decode prog_9_method_5_code 39 = .ok (.getfield 16, 3) := by decide +kernel
theorem d_Rows_sampleAt_42 : decode prog_9_method_5_code 42 = .ok (.iload_n 1, 1) := by decide +kernel
theorem d_Rows_sampleAt_43 : decode prog_9_method_5_code 43 = .ok (.iload 4, 2) := by decide +kernel
theorem d_Rows_sampleAt_45 : decode prog_9_method_5_code 45 = .ok (.bipush 8, 2) := by decide +kernel
theorem d_Rows_sampleAt_47 : decode prog_9_method_5_code 47 = .ok (.idiv, 1) := by decide +kernel
theorem d_Rows_sampleAt_48 : decode prog_9_method_5_code 48 = .ok (.iadd, 1) := by decide +kernel
theorem d_Rows_sampleAt_49 : decode prog_9_method_5_code 49 = .ok (.iaload, 1) := by decide +kernel
theorem d_Rows_sampleAt_50 : decode prog_9_method_5_code 50 = .ok (.bipush 8, 2) := by decide +kernel
theorem d_Rows_sampleAt_52 : decode prog_9_method_5_code 52 = .ok (.iload_n 3, 1) := by decide +kernel
theorem d_Rows_sampleAt_53 : decode prog_9_method_5_code 53 = .ok (.isub, 1) := by decide +kernel
theorem d_Rows_sampleAt_54 : decode prog_9_method_5_code 54 = .ok (.iload 4, 2) := by decide +kernel
theorem d_Rows_sampleAt_56 : decode prog_9_method_5_code 56 = .ok (.bipush 8, 2) := by decide +kernel
theorem d_Rows_sampleAt_58 : decode prog_9_method_5_code 58 = .ok (.irem, 1) := by decide +kernel
theorem d_Rows_sampleAt_59 : decode prog_9_method_5_code 59 = .ok (.isub, 1) := by decide +kernel
theorem d_Rows_sampleAt_60 : decode prog_9_method_5_code 60 = .ok (.ishr, 1) := by decide +kernel
theorem d_Rows_sampleAt_61 : decode prog_9_method_5_code 61 = .ok (.iconst 1, 1) := by decide +kernel
theorem d_Rows_sampleAt_62 : decode prog_9_method_5_code 62 = .ok (.iload_n 3, 1) := by decide +kernel
theorem d_Rows_sampleAt_63 : decode prog_9_method_5_code 63 = .ok (.ishl, 1) := by decide +kernel
theorem d_Rows_sampleAt_64 : decode prog_9_method_5_code 64 = .ok (.iconst 1, 1) := by decide +kernel
theorem d_Rows_sampleAt_65 : decode prog_9_method_5_code 65 = .ok (.isub, 1) := by decide +kernel
theorem d_Rows_sampleAt_66 : decode prog_9_method_5_code 66 = .ok (.iand, 1) := by decide +kernel
theorem d_Rows_sampleAt_67 : decode prog_9_method_5_code 67 = .ok (.ireturn, 1) := by decide +kernel
set_option maxRecDepth 100000 in
set_option maxHeartbeats 4000000 in
theorem c_Rows_sampleAt {l0 : Launch} (hl : l0.stackTraces = false) (n : Nat) (ids : List Nat) {t : Nat} (ht : mm_ok ids t 1 3) (a0 : Int32) (a1 : Int32) (a2 : Int32) (σ : Mm) : kw_C l0 y_Rows_sampleAt (Cond.code y_Rows_sampleAt prog_9_method_5_code 5 (some .int) :: kw_Ts) rm_Rows_sampleAt kw_oi ids [] [.ref t, .int a0, .int a1, .int a2] σ (F_Rows_sampleAt n t a0 a1 a2 σ) := by
  refine kw_start (L0 := [some (.ref t), some (.int a0), some (.int a1), some (.int a2), none]) hl (by decide +kernel) (Nat.le_of_ble_eq_true rfl) rfl (fun Γ ad C Ce => ?_)
  unfold F_Rows_sampleAt
  refine kw_iload_n C d_Rows_sampleAt_0 rfl ?_
  refine kw_bipush (v := 16) C d_Rows_sampleAt_1 (by decide) ?_
  refine kw_icmp_ne (tgt := 33) C d_Rows_sampleAt_3 (by decide) ?_ ?_
  · refine kw_iload_n C d_Rows_sampleAt_33 rfl ?_
    refine kw_iload_n C d_Rows_sampleAt_34 rfl ?_
    refine kw_imul C d_Rows_sampleAt_35 ?_
    refine kw_leti (fun x1 => ?_)
    refine kw_istore (L' := [some (.ref t), some (.int a0), some (.int a1), some (.int a2), some (.int x1)]) C d_Rows_sampleAt_36 (by decide) rfl ?_
    refine kw_aload_n C d_Rows_sampleAt_38 rfl ?_
    refine kw_getR C fi_Rows_16 rfl rfl ht d_Rows_sampleAt_39 (fun o2 ho2 => ?_)
    refine kw_iload_n C d_Rows_sampleAt_42 rfl ?_
    refine kw_iload C d_Rows_sampleAt_43 rfl ?_
    refine kw_bipush (v := 8) C d_Rows_sampleAt_45 (by decide) ?_
    refine kw_idiv C d_Rows_sampleAt_47 ?_
    refine kw_iadd C d_Rows_sampleAt_48 ?_
    refine kw_leti (fun x3 => ?_)
    refine kw_iald C (Or.inl ⟨ho2.1, ho2.2.1⟩) d_Rows_sampleAt_49 ?_
    refine kw_bipush (v := 8) C d_Rows_sampleAt_50 (by decide) ?_
    refine kw_iload_n C d_Rows_sampleAt_52 rfl ?_
    refine kw_isub C d_Rows_sampleAt_53 ?_
    refine kw_iload C d_Rows_sampleAt_54 rfl ?_
    refine kw_bipush (v := 8) C d_Rows_sampleAt_56 (by decide) ?_
    refine kw_irem C d_Rows_sampleAt_58 ?_
    refine kw_isub C d_Rows_sampleAt_59 ?_
    refine kw_ishr C d_Rows_sampleAt_60 ?_
    refine kw_iconst (v := 1) C d_Rows_sampleAt_61 (by decide) ?_
    refine kw_iload_n C d_Rows_sampleAt_62 rfl ?_
    refine kw_ishl C d_Rows_sampleAt_63 ?_
    refine kw_iconst (v := 1) C d_Rows_sampleAt_64 (by decide) ?_
    refine kw_isub C d_Rows_sampleAt_65 ?_
    refine kw_iand C d_Rows_sampleAt_66 ?_
    exact kw_iret C Ce rfl (by simp) (fun _ _ => rfl) (Nat.le_of_ble_eq_true rfl) (Nat.le_of_ble_eq_true rfl) rfl d_Rows_sampleAt_67
  · refine kw_aload_n C d_Rows_sampleAt_6 rfl ?_
    refine kw_getR C fi_Rows_16 rfl rfl ht d_Rows_sampleAt_7 (fun o4 ho4 => ?_)
    refine kw_iload_n C d_Rows_sampleAt_10 rfl ?_
    refine kw_iconst (v := 2) C d_Rows_sampleAt_11 (by decide) ?_
    refine kw_iload_n C d_Rows_sampleAt_12 rfl ?_
    refine kw_imul C d_Rows_sampleAt_13 ?_
    refine kw_iadd C d_Rows_sampleAt_14 ?_
    refine kw_leti (fun x5 => ?_)
    refine kw_iald C (Or.inl ⟨ho4.1, ho4.2.1⟩) d_Rows_sampleAt_15 ?_
    refine kw_bipush (v := 8) C d_Rows_sampleAt_16 (by decide) ?_
    refine kw_ishl C d_Rows_sampleAt_18 ?_
    refine kw_aload_n C d_Rows_sampleAt_19 rfl ?_
    refine kw_getR C fi_Rows_16 rfl rfl ht d_Rows_sampleAt_20 (fun o6 ho6 => ?_)
    refine kw_iload_n C d_Rows_sampleAt_23 rfl ?_
    refine kw_iconst (v := 2) C d_Rows_sampleAt_24 (by decide) ?_
    refine kw_iload_n C d_Rows_sampleAt_25 rfl ?_
    refine kw_imul C d_Rows_sampleAt_26 ?_
    refine kw_iadd C d_Rows_sampleAt_27 ?_
    refine kw_iconst (v := 1) C d_Rows_sampleAt_28 (by decide) ?_
    refine kw_iadd C d_Rows_sampleAt_29 ?_
    refine kw_leti (fun x7 => ?_)
    refine kw_iald C (Or.inl ⟨ho6.1, ho6.2.1⟩) d_Rows_sampleAt_30 ?_
    refine kw_ior C d_Rows_sampleAt_31 ?_
    exact kw_iret C Ce rfl (by simp) (fun _ _ => rfl) (Nat.le_of_ble_eq_true rfl) (Nat.le_of_ble_eq_true rfl) rfl d_Rows_sampleAt_32
/-! Rows_scatter -/
def rm_Rows_scatter : Room := { frames := 1, cells := 0, slots := 0, locals := 24 }
def F_Rows_scatter (n : Nat) (t : Nat) (r0 : Nat) (a1 : Int32) (σ : Mm) : Option (Mm) :=
Option.bind (gR σ (64 * r0 + 11)) fun o1 =>
Option.bind (gR σ (64 * o1 + 7)) fun o2 =>
kf_in a1 (mm_kd o2).2.2 <|
kf_let ((gB σ o2 a1.toNatClampNeg) + 1 : Int32) fun x3 =>
kf_l (α := Int32 × Int32) n (fun k4 x5 σ6 =>
Option.bind (gR σ6 (64 * o1 + 6)) fun o7 =>
kf_in a1 (mm_kd o7).2.2 <|
if (gB σ6 o7 a1.toNatClampNeg) ≤ x5.2 then (
some σ6) else (
Option.bind (gR σ6 (64 * o1 + 3)) fun o8 =>
kf_in a1 (mm_kd o8).2.2 <|
Option.bind (gR σ6 (64 * o1 + 5)) fun o9 =>
kf_in a1 (mm_kd o9).2.2 <|
Option.bind (gR σ6 (64 * o1 + 4)) fun o10 =>
kf_in a1 (mm_kd o10).2.2 <|
kf_c2 (F_Picture_indexOf n r0 ((gB σ6 o8 a1.toNatClampNeg) + (x5.2 * (gB σ6 o9 a1.toNatClampNeg))) (gB σ6 o10 a1.toNatClampNeg) σ6) fun x11 σ12 =>
kf_l (α := Int32 × Int32) n (fun k13 x14 σ15 =>
if (gS σ15 (64 * r0 + 5)) ≤ x14.2 then (
kf_let (x5.2 + Int32.ofInt 1) fun x16 =>
k4 (x14.1, x16) σ15) else (
Option.bind (gR σ15 (64 * r0 + 8)) fun o17 =>
kf_c2 (F_Rows_sampleAt n t x3 x14.1 (gS σ15 (64 * r0 + 3)) σ15) fun x18 σ19 =>
kf_in (x11 + x14.2) (mm_kd o17).2.2 <| kf_let (pB σ19 o17 (x11 + x14.2).toNatClampNeg x18) fun σ20 =>
kf_let (x14.1 + Int32.ofInt 1) fun x21 =>
kf_let (x14.2 + Int32.ofInt 1) fun x22 =>
k13 (x21, x22) σ20)) (x5.1, 0) σ12)) (0, 0) σ
theorem d_Rows_scatter_0 : decode prog_9_method_4_code 0 = .ok (.aload_n 1, 1) := by decide +kernel
theorem d_Rows_scatter_1 : decode prog_9_method_4_code 1 = .ok (.getfield 19, 3) := by decide +kernel
theorem d_Rows_scatter_4 : decode prog_9_method_4_code 4 = .ok (.astore_n 3, 1) := by decide +kernel
theorem d_Rows_scatter_5 : decode prog_9_method_4_code 5 = .ok (.aload_n 3, 1) := by decide +kernel
theorem d_Rows_scatter_6 : decode prog_9_method_4_code 6 = .ok (.getfield 25, 3) := by decide +kernel
theorem d_Rows_scatter_9 : decode prog_9_method_4_code 9 = .ok (.iload_n 2, 1) := by decide +kernel
theorem d_Rows_scatter_10 : decode prog_9_method_4_code 10 = .ok (.iaload, 1) := by decide +kernel
theorem d_Rows_scatter_11 : decode prog_9_method_4_code 11 = .ok (.iconst 1, 1) := by decide +kernel
theorem d_Rows_scatter_12 : decode prog_9_method_4_code 12 = .ok (.iadd, 1) := by decide +kernel
theorem d_Rows_scatter_13 : decode prog_9_method_4_code 13 = .ok (.istore 4, 2) := by decide +kernel
theorem d_Rows_scatter_15 : decode prog_9_method_4_code 15 = .ok (.iconst 0, 1) := by decide +kernel
theorem d_Rows_scatter_16 : decode prog_9_method_4_code 16 = .ok (.istore 5, 2) := by decide +kernel
theorem d_Rows_scatter_18 : decode prog_9_method_4_code 18 = .ok (.iconst 0, 1) := by decide +kernel
theorem d_Rows_scatter_19 : decode prog_9_method_4_code 19 = .ok (.istore 6, 2) := by decide +kernel
theorem d_Rows_scatter_21 : decode prog_9_method_4_code 21 = .ok (.iload 6, 2) := by decide +kernel
theorem d_Rows_scatter_23 : decode prog_9_method_4_code 23 = .ok (.aload_n 3, 1) := by decide +kernel
theorem d_Rows_scatter_24 : decode prog_9_method_4_code 24 = .ok (.getfield 31, 3) := by decide +kernel
theorem d_Rows_scatter_27 : decode prog_9_method_4_code 27 = .ok (.iload_n 2, 1) := by decide +kernel
theorem d_Rows_scatter_28 : decode prog_9_method_4_code 28 = .ok (.iaload, 1) := by decide +kernel
theorem d_Rows_scatter_29 : decode prog_9_method_4_code 29 = .ok (.if_icmp .ge 80, 3) := by decide +kernel
theorem d_Rows_scatter_32 : decode prog_9_method_4_code 32 = .ok (.aload_n 1, 1) := by decide +kernel
theorem d_Rows_scatter_33 : decode prog_9_method_4_code 33 = .ok (.aload_n 3, 1) := by decide +kernel
theorem d_Rows_scatter_34 : decode prog_9_method_4_code 34 = .ok (.getfield 34, 3) := by decide +kernel
theorem d_Rows_scatter_37 : decode prog_9_method_4_code 37 = .ok (.iload_n 2, 1) := by decide +kernel
theorem d_Rows_scatter_38 : decode prog_9_method_4_code 38 = .ok (.iaload, 1) := by decide +kernel
theorem d_Rows_scatter_39 : decode prog_9_method_4_code 39 = .ok (.iload 6, 2) := by decide +kernel
theorem d_Rows_scatter_41 : decode prog_9_method_4_code 41 = .ok (.aload_n 3, 1) := by decide +kernel
theorem d_Rows_scatter_42 : decode prog_9_method_4_code 42 = .ok (.getfield 37, 3) := by decide +kernel
theorem d_Rows_scatter_45 : decode prog_9_method_4_code 45 = .ok (.iload_n 2, 1) := by decide +kernel
theorem d_Rows_scatter_46 : decode prog_9_method_4_code 46 = .ok (.iaload, 1) := by decide +kernel
theorem d_Rows_scatter_47 : decode prog_9_method_4_code 47 = .ok (.imul, 1) := by decide +kernel
theorem d_Rows_scatter_48 : decode prog_9_method_4_code 48 = .ok (.iadd, 1) := by decide +kernel
theorem d_Rows_scatter_49 : decode prog_9_method_4_code 49 = .ok (.aload_n 3, 1) := by decide +kernel
theorem d_Rows_scatter_50 : decode prog_9_method_4_code 50 = .ok (.getfield 40, 3) := by decide +kernel
theorem d_Rows_scatter_53 : decode prog_9_method_4_code 53 = .ok (.iload_n 2, 1) := by decide +kernel
theorem d_Rows_scatter_54 : decode prog_9_method_4_code 54 = .ok (.iaload, 1) := by decide +kernel
theorem d_Rows_scatter_55 : decode prog_9_method_4_code 55 = .ok (.invokevirtual 43, 3) := by decide +kernel
theorem d_Rows_scatter_58 : decode prog_9_method_4_code 58 = .ok (.istore 7, 2) := by decide +kernel
theorem d_Rows_scatter_60 : decode prog_9_method_4_code 60 = .ok (.iconst 0, 1) := by decide +kernel
theorem d_Rows_scatter_61 : decode prog_9_method_4_code 61 = .ok (.istore 8, 2) := by decide +kernel
theorem d_Rows_scatter_63 : decode prog_9_method_4_code 63 = .ok (.iload 8, 2) := by decide +kernel
theorem d_Rows_scatter_65 : decode prog_9_method_4_code 65 = .ok (.aload_n 1, 1) := by decide +kernel
theorem d_Rows_scatter_66 : decode prog_9_method_4_code 66 = .ok (.getfield 47, 3) := by decide +kernel
theorem d_Rows_scatter_69 : decode prog_9_method_4_code 69 = .ok (.if_icmp .ge 34, 3) := by decide +kernel
theorem d_Rows_scatter_72 : decode prog_9_method_4_code 72 = .ok (.aload_n 1, 1) := by decide +kernel
theorem d_Rows_scatter_73 : decode prog_9_method_4_code 73 = .ok (.getfield 54, 3) := by decide +kernel
theorem d_Rows_scatter_76 : decode prog_9_method_4_code 76 = .ok (.iload 7, 2) := by decide +kernel
theorem d_Rows_scatter_78 : decode prog_9_method_4_code 78 = .ok (.iload 8, 2) := by decide +kernel
theorem d_Rows_scatter_80 : decode prog_9_method_4_code 80 = .ok (.iadd, 1) := by decide +kernel
theorem d_Rows_scatter_81 : decode prog_9_method_4_code 81 = .ok (.aload_n 0, 1) := by decide +kernel
theorem d_Rows_scatter_82 : decode prog_9_method_4_code 82 = .ok (.iload 4, 2) := by decide +kernel
theorem d_Rows_scatter_84 : decode prog_9_method_4_code 84 = .ok (.iload 5, 2) := by decide +kernel
theorem d_Rows_scatter_86 : decode prog_9_method_4_code 86 = .ok (.aload_n 1, 1) := by decide +kernel
theorem d_Rows_scatter_87 : decode prog_9_method_4_code 87 = .ok (.getfield 51, 3) := by decide +kernel
theorem d_Rows_scatter_90 : decode prog_9_method_4_code 90 = .ok (.invokevirtual 61, 3) := by decide +kernel
theorem d_Rows_scatter_93 : decode prog_9_method_4_code 93 = .ok (.iastore, 1) := by decide +kernel
theorem d_Rows_scatter_94 : decode prog_9_method_4_code 94 = .ok (.iinc 5 1, 3) := by decide +kernel
theorem d_Rows_scatter_97 : decode prog_9_method_4_code 97 = .ok (.iinc 8 1, 3) := by decide +kernel
theorem d_Rows_scatter_100 : decode prog_9_method_4_code 100 = .ok (.goto (-37), 3) := by decide +kernel
theorem d_Rows_scatter_103 : decode prog_9_method_4_code 103 = .ok (.iinc 6 1, 3) := by decide +kernel
theorem d_Rows_scatter_106 : decode prog_9_method_4_code 106 = .ok (.goto (-85), 3) := by decide +kernel
theorem d_Rows_scatter_109 : decode prog_9_method_4_code 109 = .ok (.return_, 1) := by decide +kernel
set_option maxRecDepth 100000 in
set_option maxHeartbeats 4000000 in
theorem c_Rows_scatter {l0 : Launch} (hl : l0.stackTraces = false) (n : Nat) (ids : List Nat) {t : Nat} (ht : mm_ok ids t 1 3) {r0 : Nat} (hr0 : mm_ok ids r0 1 10) (a1 : Int32) (σ : Mm) : kw_C l0 y_Rows_scatter (Cond.code y_Rows_scatter prog_9_method_4_code 9 none :: kw_Ts) rm_Rows_scatter kw_ov ids [] [.ref t, .ref r0, .int a1] σ (F_Rows_scatter n t r0 a1 σ) := by
  refine kw_start (L0 := [some (.ref t), some (.ref r0), some (.int a1), none, none, none, none, none, none]) hl (by decide +kernel) (Nat.le_of_ble_eq_true rfl) rfl (fun Γ ad C Ce => ?_)
  unfold F_Rows_scatter
  refine kw_aload_n C d_Rows_scatter_0 rfl ?_
  refine kw_getR C fi_Rows_19 rfl rfl hr0 d_Rows_scatter_1 (fun o1 ho1 => ?_)
  refine kw_astore_n (L' := [some (.ref t), some (.ref r0), some (.int a1), some (.ref o1), none, none, none, none, none]) C d_Rows_scatter_4 (by decide) rfl ?_
  refine kw_aload_n C d_Rows_scatter_5 rfl ?_
  refine kw_getR C fi_Rows_25 rfl rfl ho1 d_Rows_scatter_6 (fun o2 ho2 => ?_)
  refine kw_iload_n C d_Rows_scatter_9 rfl ?_
  refine kw_iald C (Or.inl ⟨ho2.1, ho2.2.1⟩) d_Rows_scatter_10 ?_
  refine kw_iconst (v := 1) C d_Rows_scatter_11 (by decide) ?_
  refine kw_iadd C d_Rows_scatter_12 ?_
  refine kw_leti (fun x3 => ?_)
  refine kw_istore (L' := [some (.ref t), some (.ref r0), some (.int a1), some (.ref o1), some (.int x3), none, none, none, none]) C d_Rows_scatter_13 (by decide) rfl ?_
  refine kw_iconst (v := 0) C d_Rows_scatter_15 (by decide) ?_
  refine kw_istore (L' := [some (.ref t), some (.ref r0), some (.int a1), some (.ref o1), some (.int x3), some (.int 0), none, none, none]) C d_Rows_scatter_16 (by decide) rfl ?_
  refine kw_iconst (v := 0) C d_Rows_scatter_18 (by decide) ?_
  refine kw_istore (L' := [some (.ref t), some (.ref r0), some (.int a1), some (.ref o1), some (.int x3), some (.int 0), some (.int 0), none, none]) C d_Rows_scatter_19 (by decide) rfl ?_
  refine kw_wk (kw_l (α := Int32 × Int32) (pc := 21) (Lj := fun x5 => [some (.ref t), some (.ref r0), some (.int a1), some (.ref o1), some (.int x3), some (.int x5.1), some (.int x5.2), none, none]) (stj := fun x5 => []) (fun k4 hk4 x5 σ6 => ?_) n (0, 0) σ) ⟨Or.inr rfl, Or.inr rfl, Or.inr rfl, Or.inr rfl, Or.inr rfl, Or.inr rfl, Or.inr rfl, Or.inl rfl, Or.inl rfl, trivial⟩
  refine kw_iload C d_Rows_scatter_21 rfl ?_
  refine kw_aload_n C d_Rows_scatter_23 rfl ?_
  refine kw_getR C fi_Rows_31 rfl rfl ho1 d_Rows_scatter_24 (fun o7 ho7 => ?_)
  refine kw_iload_n C d_Rows_scatter_27 rfl ?_
  refine kw_iald C (Or.inl ⟨ho7.1, ho7.2.1⟩) d_Rows_scatter_28 ?_
  refine kw_icmp_ge (tgt := 109) C d_Rows_scatter_29 (by decide) ?_ ?_
  · exact kw_vret C Ce rfl (by simp) (fun _ _ => rfl) (Nat.le_of_ble_eq_true rfl) (Nat.le_of_ble_eq_true rfl) rfl d_Rows_scatter_109
  · refine kw_aload_n C d_Rows_scatter_32 rfl ?_
    refine kw_aload_n C d_Rows_scatter_33 rfl ?_
    refine kw_getR C fi_Rows_34 rfl rfl ho1 d_Rows_scatter_34 (fun o8 ho8 => ?_)
    refine kw_iload_n C d_Rows_scatter_37 rfl ?_
    refine kw_iald C (Or.inl ⟨ho8.1, ho8.2.1⟩) d_Rows_scatter_38 ?_
    refine kw_iload C d_Rows_scatter_39 rfl ?_
    refine kw_aload_n C d_Rows_scatter_41 rfl ?_
    refine kw_getR C fi_Rows_37 rfl rfl ho1 d_Rows_scatter_42 (fun o9 ho9 => ?_)
    refine kw_iload_n C d_Rows_scatter_45 rfl ?_
    refine kw_iald C (Or.inl ⟨ho9.1, ho9.2.1⟩) d_Rows_scatter_46 ?_
    refine kw_imul C d_Rows_scatter_47 ?_
    refine kw_iadd C d_Rows_scatter_48 ?_
    refine kw_aload_n C d_Rows_scatter_49 rfl ?_
    refine kw_getR C fi_Rows_40 rfl rfl ho1 d_Rows_scatter_50 (fun o10 ho10 => ?_)
    refine kw_iload_n C d_Rows_scatter_53 rfl ?_
    refine kw_iald C (Or.inl ⟨ho10.1, ho10.2.1⟩) d_Rows_scatter_54 ?_
    refine kw_callVi (cl' := 0) (sl' := 0) (As := [.int ((gB σ6 o8 a1.toNatClampNeg) + (x5.2 * (gB σ6 o9 a1.toNatClampNeg))), .int (gB σ6 o10 a1.toNatClampNeg)]) C (c_Picture_indexOf hl n ids hr0 ((gB σ6 o8 a1.toNatClampNeg) + (x5.2 * (gB σ6 o9 a1.toNatClampNeg))) (gB σ6 o10 a1.toNatClampNeg) σ6) mi_Rows_43 v_Picture_indexOf ⟨_, _, rfl⟩ hr0 ⟨Nat.le_of_ble_eq_true rfl, Nat.le_of_ble_eq_true rfl⟩ (Nat.le_of_ble_eq_true rfl) ⟨Nat.le_of_ble_eq_true rfl, Nat.le_of_ble_eq_true rfl⟩ ⟨rfl, rfl⟩ rfl d_Rows_scatter_55 (fun x11 σ12 => ?_)
    refine kw_istore (L' := [some (.ref t), some (.ref r0), some (.int a1), some (.ref o1), some (.int x3), some (.int x5.1), some (.int x5.2), some (.int x11), none]) C d_Rows_scatter_58 (by decide) rfl ?_
    refine kw_iconst (v := 0) C d_Rows_scatter_60 (by decide) ?_
    refine kw_istore (L' := [some (.ref t), some (.ref r0), some (.int a1), some (.ref o1), some (.int x3), some (.int x5.1), some (.int x5.2), some (.int x11), some (.int 0)]) C d_Rows_scatter_61 (by decide) rfl ?_
    refine kw_wk (kw_l (α := Int32 × Int32) (pc := 63) (Lj := fun x14 => [some (.ref t), some (.ref r0), some (.int a1), some (.ref o1), some (.int x3), some (.int x14.1), some (.int x5.2), some (.int x11), some (.int x14.2)]) (stj := fun x14 => []) (fun k13 hk13 x14 σ15 => ?_) n (x5.1, 0) σ12) ⟨Or.inr rfl, Or.inr rfl, Or.inr rfl, Or.inr rfl, Or.inr rfl, Or.inr rfl, Or.inr rfl, Or.inr rfl, Or.inr rfl, trivial⟩
    refine kw_iload C d_Rows_scatter_63 rfl ?_
    refine kw_aload_n C d_Rows_scatter_65 rfl ?_
    refine kw_getI C fi_Rows_47 (Or.inl rfl) hr0 d_Rows_scatter_66 ?_
    refine kw_icmp_ge (tgt := 103) C d_Rows_scatter_69 (by decide) ?_ ?_
    · refine kw_iincL (L2 := fun x16 => [some (.ref t), some (.ref r0), some (.int a1), some (.ref o1), some (.int x3), some (.int x14.1), some (.int x16), some (.int x11), some (.int x14.2)]) C d_Rows_scatter_103 (by decide) rfl (fun _ => rfl) (fun x16 => ?_)
      refine kw_goto (tgt := 21) C d_Rows_scatter_106 (by decide) ?_
      exact kw_wk (hk4 (x14.1, x16) σ15) ⟨Or.inr rfl, Or.inr rfl, Or.inr rfl, Or.inr rfl, Or.inr rfl, Or.inr rfl, Or.inr rfl, Or.inl rfl, Or.inl rfl, trivial⟩
    · refine kw_aload_n C d_Rows_scatter_72 rfl ?_
      refine kw_getR C fi_Rows_54 rfl rfl hr0 d_Rows_scatter_73 (fun o17 ho17 => ?_)
      refine kw_iload C d_Rows_scatter_76 rfl ?_
      refine kw_iload C d_Rows_scatter_78 rfl ?_
      refine kw_iadd C d_Rows_scatter_80 ?_
      refine kw_aload_n C d_Rows_scatter_81 rfl ?_
      refine kw_iload C d_Rows_scatter_82 rfl ?_
      refine kw_iload C d_Rows_scatter_84 rfl ?_
      refine kw_aload_n C d_Rows_scatter_86 rfl ?_
      refine kw_getI C fi_Rows_51 (Or.inl rfl) hr0 d_Rows_scatter_87 ?_
      refine kw_callVi (cl' := 0) (sl' := 0) (As := [.int x3, .int x14.1, .int (gS σ15 (64 * r0 + 3))]) C (c_Rows_sampleAt hl n ids ht x3 x14.1 (gS σ15 (64 * r0 + 3)) σ15) mi_Rows_61 v_Rows_sampleAt ⟨_, _, rfl⟩ ht ⟨Nat.le_of_ble_eq_true rfl, Nat.le_of_ble_eq_true rfl⟩ (Nat.le_of_ble_eq_true rfl) ⟨Nat.le_of_ble_eq_true rfl, Nat.le_of_ble_eq_true rfl⟩ ⟨rfl, rfl⟩ rfl d_Rows_scatter_90 (fun x18 σ19 => ?_)
      refine kw_iast C ho17 d_Rows_scatter_93 (fun σ20 => ?_)
      refine kw_iincL (L2 := fun x21 => [some (.ref t), some (.ref r0), some (.int a1), some (.ref o1), some (.int x3), some (.int x21), some (.int x5.2), some (.int x11), some (.int x14.2)]) C d_Rows_scatter_94 (by decide) rfl (fun _ => rfl) (fun x21 => ?_)
      refine kw_iincL (L2 := fun x22 => [some (.ref t), some (.ref r0), some (.int a1), some (.ref o1), some (.int x3), some (.int x21), some (.int x5.2), some (.int x11), some (.int x22)]) C d_Rows_scatter_97 (by decide) rfl (fun _ => rfl) (fun x22 => ?_)
      refine kw_goto (tgt := 63) C d_Rows_scatter_100 (by decide) ?_
      exact kw_wk (hk13 (x21, x22) σ20) ⟨Or.inr rfl, Or.inr rfl, Or.inr rfl, Or.inr rfl, Or.inr rfl, Or.inr rfl, Or.inr rfl, Or.inr rfl, Or.inr rfl, trivial⟩
/-! Rows_allColoursThere -/
def rm_Rows_allColoursThere : Room := { frames := 1, cells := 0, slots := 0, locals := 22 }
def F_Rows_allColoursThere (n : Nat) (r0 : Nat) (r1 : Nat) (σ : Mm) : Option (Int32 × Mm) :=
kf_l (α := Int32) n (fun k1 x2 σ3 =>
if ((gS σ3 (64 * r0 + 0)) * (gS σ3 (64 * r0 + 1))) ≤ x2 then (
kf_z 1 (some (1, σ3))) else (
Option.bind (gR σ3 (64 * r0 + 8)) fun o4 =>
kf_in x2 (mm_kd o4).2.2 <|
if (gB σ3 o4 x2.toNatClampNeg) < (gS σ3 (64 * r0 + 6)) then (
kf_let (x2 + Int32.ofInt 1) fun x5 =>
k1 x5 σ3) else (
kf_c2 (F_Fault_refuse n r1 31 x2 σ3) fun x6 σ7 =>
kf_z x6 (some (x6, σ7))))) 0 σ
theorem d_Rows_allColoursThere_0 : decode prog_9_method_13_code 0 = .ok (.iconst 0, 1) := by decide +kernel
theorem d_Rows_allColoursThere_1 : decode prog_9_method_13_code 1 = .ok (.istore_n 2, 1) := by decide +kernel
theorem d_Rows_allColoursThere_2 : decode prog_9_method_13_code 2 = .ok (.iload_n 2, 1) := by decide +kernel
theorem d_Rows_allColoursThere_3 : decode prog_9_method_13_code 3 = .ok (.aload_n 0, 1) := by decide +kernel
theorem d_Rows_allColoursThere_4 : decode prog_9_method_13_code 4 = .ok (.getfield 116, 3) := by decide +kernel
theorem d_Rows_allColoursThere_7 : decode prog_9_method_13_code 7 = .ok (.aload_n 0, 1) := by decide +kernel
theorem d_Rows_allColoursThere_8 : decode prog_9_method_13_code 8 = .ok (.getfield 119, 3) := by decide +kernel
theorem d_Rows_allColoursThere_11 : decode prog_9_method_13_code 11 = .ok (.imul, 1) := by decide +kernel
theorem d_Rows_allColoursThere_12 : decode prog_9_method_13_code 12 = .ok (.if_icmp .ge 30, 3) := by decide +kernel
theorem d_Rows_allColoursThere_15 : decode prog_9_method_13_code 15 = .ok (.aload_n 0, 1) := by decide +kernel
theorem d_Rows_allColoursThere_16 : decode prog_9_method_13_code 16 = .ok (.getfield 54, 3) := by decide +kernel
theorem d_Rows_allColoursThere_19 : decode prog_9_method_13_code 19 = .ok (.iload_n 2, 1) := by decide +kernel
theorem d_Rows_allColoursThere_20 : decode prog_9_method_13_code 20 = .ok (.iaload, 1) := by decide +kernel
theorem d_Rows_allColoursThere_21 : decode prog_9_method_13_code 21 = .ok (.aload_n 0, 1) := by decide +kernel
theorem d_Rows_allColoursThere_22 : decode prog_9_method_13_code 22 = .ok (.getfield 122, 3) := by decide +kernel
theorem d_Rows_allColoursThere_25 : decode prog_9_method_13_code 25 = .ok (.if_icmp .lt 11, 3) := by decide +kernel
theorem d_Rows_allColoursThere_28 : decode prog_9_method_13_code 28 = .ok (.aload_n 1, 1) := by decide +kernel
theorem d_Rows_allColoursThere_29 : decode prog_9_method_13_code 29 = .ok (.bipush 31, 2) := by decide +kernel
theorem d_Rows_allColoursThere_31 : decode prog_9_method_13_code 31 = .ok (.iload_n 2, 1) := by decide +kernel
theorem d_Rows_allColoursThere_32 : decode prog_9_method_13_code 32 = .ok (.invokevirtual 100, 3) := by decide +kernel
theorem d_Rows_allColoursThere_35 : decode prog_9_method_13_code 35 = .ok (.ireturn, 1) := by decide +kernel
theorem d_Rows_allColoursThere_36 : decode prog_9_method_13_code 36 = .ok (.iinc 2 1, 3) := by decide +kernel
theorem d_Rows_allColoursThere_39 : decode prog_9_method_13_code 39 = .ok (.goto (-37), 3) := by decide +kernel
theorem d_Rows_allColoursThere_42 : decode prog_9_method_13_code 42 = .ok (.iconst 1, 1) := by decide +kernel
theorem d_Rows_allColoursThere_43 : decode prog_9_method_13_code 43 = .ok (.ireturn, 1) := by decide +kernel
set_option maxRecDepth 100000 in
set_option maxHeartbeats 4000000 in
theorem c_Rows_allColoursThere {l0 : Launch} (hl : l0.stackTraces = false) (n : Nat) (ids : List Nat) {r0 : Nat} (hr0 : mm_ok ids r0 1 10) {r1 : Nat} (hr1 : mm_ok ids r1 1 2)  (σ : Mm) : kw_C l0 y_Rows_allColoursThere (Cond.code y_Rows_allColoursThere prog_9_method_13_code 3 (some .boolean) :: kw_Ts) rm_Rows_allColoursThere kw_oi ids [] [.ref r0, .ref r1] σ (F_Rows_allColoursThere n r0 r1 σ) := by
  refine kw_start (L0 := [some (.ref r0), some (.ref r1), none]) hl (by decide +kernel) (Nat.le_of_ble_eq_true rfl) rfl (fun Γ ad C Ce => ?_)
  unfold F_Rows_allColoursThere
  refine kw_iconst (v := 0) C d_Rows_allColoursThere_0 (by decide) ?_
  refine kw_istore_n (L' := [some (.ref r0), some (.ref r1), some (.int 0)]) C d_Rows_allColoursThere_1 (by decide) rfl ?_
  refine kw_wk (kw_l (α := Int32) (pc := 2) (Lj := fun x2 => [some (.ref r0), some (.ref r1), some (.int x2)]) (stj := fun x2 => []) (fun k1 hk1 x2 σ3 => ?_) n 0 σ) ⟨Or.inr rfl, Or.inr rfl, Or.inr rfl, trivial⟩
  refine kw_iload_n C d_Rows_allColoursThere_2 rfl ?_
  refine kw_aload_n C d_Rows_allColoursThere_3 rfl ?_
  refine kw_getI C fi_Rows_116 (Or.inl rfl) hr0 d_Rows_allColoursThere_4 ?_
  refine kw_aload_n C d_Rows_allColoursThere_7 rfl ?_
  refine kw_getI C fi_Rows_119 (Or.inl rfl) hr0 d_Rows_allColoursThere_8 ?_
  refine kw_imul C d_Rows_allColoursThere_11 ?_
  refine kw_icmp_ge (tgt := 42) C d_Rows_allColoursThere_12 (by decide) ?_ ?_
  · refine kw_iconst (v := 1) C d_Rows_allColoursThere_42 (by decide) ?_
    exact kw_zret C Ce rfl (by simp) (fun _ _ => rfl) (Nat.le_of_ble_eq_true rfl) (Nat.le_of_ble_eq_true rfl) rfl d_Rows_allColoursThere_43
  · refine kw_aload_n C d_Rows_allColoursThere_15 rfl ?_
    refine kw_getR C fi_Rows_54 rfl rfl hr0 d_Rows_allColoursThere_16 (fun o4 ho4 => ?_)
    refine kw_iload_n C d_Rows_allColoursThere_19 rfl ?_
    refine kw_iald C (Or.inl ⟨ho4.1, ho4.2.1⟩) d_Rows_allColoursThere_20 ?_
    refine kw_aload_n C d_Rows_allColoursThere_21 rfl ?_
    refine kw_getI C fi_Rows_122 (Or.inl rfl) hr0 d_Rows_allColoursThere_22 ?_
    refine kw_icmp_lt (tgt := 36) C d_Rows_allColoursThere_25 (by decide) ?_ ?_
    · refine kw_iincL (L2 := fun x5 => [some (.ref r0), some (.ref r1), some (.int x5)]) C d_Rows_allColoursThere_36 (by decide) rfl (fun _ => rfl) (fun x5 => ?_)
      refine kw_goto (tgt := 2) C d_Rows_allColoursThere_39 (by decide) ?_
      exact kw_wk (hk1 x5 σ3) ⟨Or.inr rfl, Or.inr rfl, Or.inr rfl, trivial⟩
    · refine kw_aload_n C d_Rows_allColoursThere_28 rfl ?_
      refine kw_bipush (v := 31) C d_Rows_allColoursThere_29 (by decide) ?_
      refine kw_iload_n C d_Rows_allColoursThere_31 rfl ?_
      refine kw_callVi (cl' := 0) (sl' := 0) (As := [.int 31, .int x2]) C (c_Fault_refuse hl n ids hr1 31 x2 σ3) mi_Rows_100 v_Fault_refuse ⟨_, _, rfl⟩ hr1 ⟨Nat.le_of_ble_eq_true rfl, Nat.le_of_ble_eq_true rfl⟩ (Nat.le_of_ble_eq_true rfl) ⟨Nat.le_of_ble_eq_true rfl, Nat.le_of_ble_eq_true rfl⟩ ⟨rfl, rfl⟩ rfl d_Rows_allColoursThere_32 (fun x6 σ7 => ?_)
      exact kw_zret C Ce rfl (by simp) (fun _ _ => rfl) (Nat.le_of_ble_eq_true rfl) (Nat.le_of_ble_eq_true rfl) rfl d_Rows_allColoursThere_35
/-! Rows_restore -/
def rm_Rows_restore : Room := { frames := 3, cells := 0, slots := 0, locals := 75 }
def F_Rows_restore (n : Nat) (t : Nat) (r0 : Nat) (r1 : Nat) (σ : Mm) : Option (Int32 × Mm) :=
Option.bind (gR σ (64 * r0 + 11)) fun o1 =>
kf_l (α := Int32) n (fun k2 x3 σ4 =>
if (gS σ4 (64 * o1 + 0)) ≤ x3 then (
kf_l (α := Int32) n (fun k5 x6 σ7 =>
if (gS σ7 (64 * o1 + 0)) ≤ x6 then (
kf_j (α := Int32) (fun x9 σ10 =>
kf_z x9 (some (x9, σ10))) fun k8 =>
kf_j (α := Unit) (fun x12 σ13 =>
k8 1 σ13) fun k11 =>
if (gS σ7 (64 * r0 + 2)) = 3 then (
kf_c2 (F_Rows_allColoursThere n r0 r1 σ7) fun x14 σ15 =>
if x14 = 0 then (
k8 0 σ15) else (
k11 () σ15)) else (
k11 () σ7)) else (
Option.bind (gR σ7 (64 * o1 + 7)) fun o16 =>
kf_in x6 (mm_kd o16).2.2 <|
kf_let ((gB σ7 o16 x6.toNatClampNeg) + 1 : Int32) fun x17 =>
Option.bind (gR σ7 (64 * t + 0)) fun o18 =>
kf_let (x17 - 1 : Int32) fun x19 =>
kf_in x19 (mm_kd o18).2.2 <|
kf_let (gB σ7 o18 x19.toNatClampNeg : Int32) fun x20 =>
kf_l (α := Int32) n (fun k21 x22 σ23 =>
Option.bind (gR σ23 (64 * o1 + 8)) fun o24 =>
kf_in x6 (mm_kd o24).2.2 <|
if (gB σ23 o24 x6.toNatClampNeg) ≤ x22 then (
Option.bind (F_Rows_scatter n t r0 x6 σ23) fun σ25 =>
kf_let (x6 + Int32.ofInt 1) fun x26 =>
k5 x26 σ25) else (
Option.bind (gR σ23 (64 * t + 1)) fun o27 =>
Option.bind (gR σ23 (64 * t + 0)) fun o28 =>
kf_let (x17 + x22 : Int32) fun x29 =>
kf_in x29 (mm_kd o28).2.2 <|
kf_c2 (F_Rows_guess n t o1 x6 x22 x20 σ23) fun x30 σ31 =>
kf_in (x17 + x22) (mm_kd o27).2.2 <| kf_let (pB σ31 o27 (x17 + x22).toNatClampNeg (((gB σ23 o28 x29.toNatClampNeg) + x30) &&& 255)) fun σ32 =>
kf_let (x22 + Int32.ofInt 1) fun x33 =>
k21 x33 σ32)) 0 σ7)) 0 σ4) else (
Option.bind (gR σ4 (64 * t + 0)) fun o34 =>
Option.bind (gR σ4 (64 * o1 + 7)) fun o35 =>
kf_in x3 (mm_kd o35).2.2 <|
kf_let (gB σ4 o35 x3.toNatClampNeg : Int32) fun x36 =>
kf_in x36 (mm_kd o34).2.2 <|
if (gB σ4 o34 x36.toNatClampNeg) < 5 then (
kf_let (x3 + Int32.ofInt 1) fun x37 =>
k2 x37 σ4) else (
Option.bind (gR σ4 (64 * o1 + 7)) fun o38 =>
kf_in x3 (mm_kd o38).2.2 <|
kf_c2 (F_Fault_refuse n r1 30 (gB σ4 o38 x3.toNatClampNeg) σ4) fun x39 σ40 =>
kf_z x39 (some (x39, σ40))))) 0 σ
theorem d_Rows_restore_0 : decode prog_9_method_12_code 0 = .ok (.aload_n 1, 1) := by decide +kernel
theorem d_Rows_restore_1 : decode prog_9_method_12_code 1 = .ok (.getfield 19, 3) := by decide +kernel
theorem d_Rows_restore_4 : decode prog_9_method_12_code 4 = .ok (.astore_n 3, 1) := by decide +kernel
theorem d_Rows_restore_5 : decode prog_9_method_12_code 5 = .ok (.iconst 0, 1) := by decide +kernel
theorem d_Rows_restore_6 : decode prog_9_method_12_code 6 = .ok (.istore 4, 2) := by decide +kernel
theorem d_Rows_restore_8 : decode prog_9_method_12_code 8 = .ok (.iload 4, 2) := by decide +kernel
theorem d_Rows_restore_10 : decode prog_9_method_12_code 10 = .ok (.aload_n 3, 1) := by decide +kernel
theorem d_Rows_restore_11 : decode prog_9_method_12_code 11 = .ok (.getfield 88, 3) := by decide +kernel
theorem d_Rows_restore_14 : decode prog_9_method_12_code 14 = .ok (.if_icmp .ge 39, 3) := by decide +kernel
theorem d_Rows_restore_17 : decode prog_9_method_12_code 17 = .ok (.aload_n 0, 1) := by decide +kernel
theorem d_Rows_restore_18 : decode prog_9_method_12_code 18 = .ok (.getfield 10, 3) := by decide +kernel
theorem d_Rows_restore_21 : decode prog_9_method_12_code 21 = .ok (.aload_n 3, 1) := by decide +kernel
theorem d_Rows_restore_22 : decode prog_9_method_12_code 22 = .ok (.getfield 25, 3) := by decide +kernel
theorem d_Rows_restore_25 : decode prog_9_method_12_code 25 = .ok (.iload 4, 2) := by decide +kernel
theorem d_Rows_restore_27 : decode prog_9_method_12_code 27 = .ok (.iaload, 1) := by decide +kernel
theorem d_Rows_restore_28 : decode prog_9_method_12_code 28 = .ok (.iaload, 1) := by decide +kernel
theorem d_Rows_restore_29 : decode prog_9_method_12_code 29 = .ok (.iconst 5, 1) := by decide +kernel
theorem d_Rows_restore_30 : decode prog_9_method_12_code 30 = .ok (.if_icmp .lt 17, 3) := by decide +kernel
theorem d_Rows_restore_33 : decode prog_9_method_12_code 33 = .ok (.aload_n 2, 1) := by decide +kernel
theorem d_Rows_restore_34 : decode prog_9_method_12_code 34 = .ok (.bipush 30, 2) := by decide +kernel
theorem d_Rows_restore_36 : decode prog_9_method_12_code 36 = .ok (.aload_n 3, 1) := by decide +kernel
theorem d_Rows_restore_37 : decode prog_9_method_12_code 37 = .ok (.getfield 25, 3) := by decide +kernel
theorem d_Rows_restore_40 : decode prog_9_method_12_code 40 = .ok (.iload 4, 2) := by decide +kernel
theorem d_Rows_restore_42 : decode prog_9_method_12_code 42 = .ok (.iaload, 1) := by decide +kernel
theorem d_Rows_restore_43 : decode prog_9_method_12_code 43 = .ok (.invokevirtual 100, 3) := by decide +kernel
theorem d_Rows_restore_46 : decode prog_9_method_12_code 46 = .ok (.ireturn, 1) := by decide +kernel
theorem d_Rows_restore_47 : decode prog_9_method_12_code 47 = .ok (.iinc 4 1, 3) := by decide +kernel
theorem d_Rows_restore_50 : decode prog_9_method_12_code 50 = .ok (.goto (-42), 3) := by decide +kernel
theorem d_Rows_restore_53 : decode prog_9_method_12_code 53 = .ok (.iconst 0, 1) := by decide +kernel
theorem d_Rows_restore_54 : decode prog_9_method_12_code 54 = .ok (.istore 4, 2) := by decide +kernel
theorem d_Rows_restore_56 : decode prog_9_method_12_code 56 = .ok (.iload 4, 2) := by decide +kernel
theorem d_Rows_restore_58 : decode prog_9_method_12_code 58 = .ok (.aload_n 3, 1) := by decide +kernel
theorem d_Rows_restore_59 : decode prog_9_method_12_code 59 = .ok (.getfield 88, 3) := by decide +kernel
theorem d_Rows_restore_62 : decode prog_9_method_12_code 62 = .ok (.if_icmp .ge 95, 3) := by decide +kernel
theorem d_Rows_restore_65 : decode prog_9_method_12_code 65 = .ok (.aload_n 3, 1) := by decide +kernel
theorem d_Rows_restore_66 : decode prog_9_method_12_code 66 = .ok (.getfield 25, 3) := by decide +kernel
theorem d_Rows_restore_69 : decode prog_9_method_12_code 69 = .ok (.iload 4, 2) := by decide +kernel
theorem d_Rows_restore_71 : decode prog_9_method_12_code 71 = .ok (.iaload, 1) := by decide +kernel
theorem d_Rows_restore_72 : decode prog_9_method_12_code 72 = .ok (.iconst 1, 1) := by decide +kernel
theorem d_Rows_restore_73 : decode prog_9_method_12_code 73 = .ok (.iadd, 1) := by decide +kernel
theorem d_Rows_restore_74 : decode prog_9_method_12_code 74 = .ok (.istore 5, 2) := by decide +kernel
theorem d_Rows_restore_76 : decode prog_9_method_12_code 76 = .ok (.aload_n 0, 1) := by decide +kernel
theorem d_Rows_restore_77 : decode prog_9_method_12_code 77 = .ok (.getfield 10, 3) := by decide +kernel
theorem d_Rows_restore_80 : decode prog_9_method_12_code 80 = .ok (.iload 5, 2) := by decide +kernel
theorem d_Rows_restore_82 : decode prog_9_method_12_code 82 = .ok (.iconst 1, 1) := by decide +kernel
theorem d_Rows_restore_83 : decode prog_9_method_12_code 83 = .ok (.isub, 1) := by decide +kernel
theorem d_Rows_restore_84 : decode prog_9_method_12_code 84 = .ok (.iaload, 1) := by decide +kernel
theorem d_Rows_restore_85 : decode prog_9_method_12_code 85 = .ok (.istore 6, 2) := by decide +kernel
theorem d_Rows_restore_87 : decode prog_9_method_12_code 87 = .ok (.iconst 0, 1) := by decide +kernel
theorem d_Rows_restore_88 : decode prog_9_method_12_code 88 = .ok (.istore 7, 2) := by decide +kernel
theorem d_Rows_restore_90 : decode prog_9_method_12_code 90 = .ok (.iload 7, 2) := by decide +kernel
theorem d_Rows_restore_92 : decode prog_9_method_12_code 92 = .ok (.aload_n 3, 1) := by decide +kernel
theorem d_Rows_restore_93 : decode prog_9_method_12_code 93 = .ok (.getfield 28, 3) := by decide +kernel
theorem d_Rows_restore_96 : decode prog_9_method_12_code 96 = .ok (.iload 4, 2) := by decide +kernel
theorem d_Rows_restore_98 : decode prog_9_method_12_code 98 = .ok (.iaload, 1) := by decide +kernel
theorem d_Rows_restore_99 : decode prog_9_method_12_code 99 = .ok (.if_icmp .ge 45, 3) := by decide +kernel
theorem d_Rows_restore_102 : decode prog_9_method_12_code 102 = .ok (.aload_n 0, 1) := by decide +kernel
theorem d_Rows_restore_103 : decode prog_9_method_12_code 103 = .ok (.getfield 16, 3) := by decide +kernel
theorem d_Rows_restore_106 : decode prog_9_method_12_code 106 = .ok (.iload 5, 2) := by decide +kernel
theorem d_Rows_restore_108 : decode prog_9_method_12_code 108 = .ok (.iload 7, 2) := by decide +kernel
theorem d_Rows_restore_110 : decode prog_9_method_12_code 110 = .ok (.iadd, 1) := by decide +kernel
theorem d_Rows_restore_111 : decode prog_9_method_12_code 111 = .ok (.aload_n 0, 1) := by decide +kernel
theorem d_Rows_restore_112 : decode prog_9_method_12_code 112 = .ok (.getfield 10, 3) := by decide +kernel
theorem d_Rows_restore_115 : decode prog_9_method_12_code 115 = .ok (.iload 5, 2) := by decide +kernel
theorem d_Rows_restore_117 : decode prog_9_method_12_code 117 = .ok (.iload 7, 2) := by decide +kernel
theorem d_Rows_restore_119 : decode prog_9_method_12_code 119 = .ok (.iadd, 1) := by decide +kernel
theorem d_Rows_restore_120 : decode prog_9_method_12_code 120 = .ok (.iaload, 1) := by decide +kernel
theorem d_Rows_restore_121 : decode prog_9_method_12_code 121 = .ok (.aload_n 0, 1) := by decide +kernel
theorem d_Rows_restore_122 : decode prog_9_method_12_code 122 = .ok (.aload_n 3, 1) := by decide +kernel
theorem d_Rows_restore_123 : decode prog_9_method_12_code 123 = .ok (.iload 4, 2) := by decide +kernel
theorem d_Rows_restore_125 : decode prog_9_method_12_code 125 = .ok (.iload 7, 2) := by decide +kernel
theorem d_Rows_restore_127 : decode prog_9_method_12_code 127 = .ok (.iload 6, 2) := by decide +kernel
theorem d_Rows_restore_129 : decode prog_9_method_12_code 129 = .ok (.invokevirtual 69, 3) := by decide +kernel
theorem d_Rows_restore_132 : decode prog_9_method_12_code 132 = .ok (.iadd, 1) := by decide +kernel
theorem d_Rows_restore_133 : decode prog_9_method_12_code 133 = .ok (.sipush 255, 3) := by decide +kernel
theorem d_Rows_restore_136 : decode prog_9_method_12_code 136 = .ok (.iand, 1) := by decide +kernel
theorem d_Rows_restore_137 : decode prog_9_method_12_code 137 = .ok (.iastore, 1) := by decide +kernel
theorem d_Rows_restore_138 : decode prog_9_method_12_code 138 = .ok (.iinc 7 1, 3) := by decide +kernel
theorem d_Rows_restore_141 : decode prog_9_method_12_code 141 = .ok (.goto (-51), 3) := by decide +kernel
theorem d_Rows_restore_144 : decode prog_9_method_12_code 144 = .ok (.aload_n 0, 1) := by decide +kernel
theorem d_Rows_restore_145 : decode prog_9_method_12_code 145 = .ok (.aload_n 1, 1) := by decide +kernel
theorem d_Rows_restore_146 : decode prog_9_method_12_code 146 = .ok (.iload 4, 2) := by decide +kernel
theorem d_Rows_restore_148 : decode prog_9_method_12_code 148 = .ok (.invokevirtual 106, 3) := by decide +kernel
theorem d_Rows_restore_151 : decode prog_9_method_12_code 151 = .ok (.iinc 4 1, 3) := by decide +kernel
theorem d_Rows_restore_154 : decode prog_9_method_12_code 154 = .ok (.goto (-98), 3) := by decide +kernel
theorem d_Rows_restore_157 : decode prog_9_method_12_code 157 = .ok (.aload_n 1, 1) := by decide +kernel
theorem d_Rows_restore_158 : decode prog_9_method_12_code 158 = .ok (.getfield 109, 3) := by decide +kernel
theorem d_Rows_restore_161 : decode prog_9_method_12_code 161 = .ok (.iconst 3, 1) := by decide +kernel
theorem d_Rows_restore_162 : decode prog_9_method_12_code 162 = .ok (.if_icmp .ne 11, 3) := by decide +kernel
theorem d_Rows_restore_165 : decode prog_9_method_12_code 165 = .ok (.aload_n 1, 1) := by decide +kernel
theorem d_Rows_restore_166 : decode prog_9_method_12_code 166 = .ok (.aload_n 2, 1) := by decide +kernel
theorem d_Rows_restore_167 : decode prog_9_method_12_code 167 = .ok (.invokestatic 112, 3) := by decide +kernel
theorem d_Rows_restore_170 : decode prog_9_method_12_code 170 = .ok (.ifCond .eq 7, 3) := by decide +kernel
theorem d_Rows_restore_173 : decode prog_9_method_12_code 173 = .ok (.iconst 1, 1) := by decide +kernel
theorem d_Rows_restore_174 : decode prog_9_method_12_code 174 = .ok (.goto 4, 3) := by decide +kernel
theorem d_Rows_restore_177 : decode prog_9_method_12_code 177 = .ok (.iconst 0, 1) := by decide +kernel
theorem d_Rows_restore_178 : decode prog_9_method_12_code 178 = .ok (.ireturn, 1) := by decide +kernel
set_option maxRecDepth 100000 in
set_option maxHeartbeats 4000000 in
theorem c_Rows_restore {l0 : Launch} (hl : l0.stackTraces = false) (n : Nat) (ids : List Nat) {t : Nat} (ht : mm_ok ids t 1 3) {r0 : Nat} (hr0 : mm_ok ids r0 1 10) {r1 : Nat} (hr1 : mm_ok ids r1 1 2)  (σ : Mm) : kw_C l0 y_Rows_restore (Cond.code y_Rows_restore prog_9_method_12_code 8 (some .boolean) :: kw_Ts) rm_Rows_restore kw_oi ids [] [.ref t, .ref r0, .ref r1] σ (F_Rows_restore n t r0 r1 σ) := by
  refine kw_start (L0 := [some (.ref t), some (.ref r0), some (.ref r1), none, none, none, none, none]) hl (by decide +kernel) (Nat.le_of_ble_eq_true rfl) rfl (fun Γ ad C Ce => ?_)
  unfold F_Rows_restore
  refine kw_aload_n C d_Rows_restore_0 rfl ?_
  refine kw_getR C fi_Rows_19 rfl rfl hr0 d_Rows_restore_1 (fun o1 ho1 => ?_)
  refine kw_astore_n (L' := [some (.ref t), some (.ref r0), some (.ref r1), some (.ref o1), none, none, none, none]) C d_Rows_restore_4 (by decide) rfl ?_
  refine kw_iconst (v := 0) C d_Rows_restore_5 (by decide) ?_
  refine kw_istore (L' := [some (.ref t), some (.ref r0), some (.ref r1), some (.ref o1), some (.int 0), none, none, none]) C d_Rows_restore_6 (by decide) rfl ?_
  refine kw_wk (kw_l (α := Int32) (pc := 8) (Lj := fun x3 => [some (.ref t), some (.ref r0), some (.ref r1), some (.ref o1), some (.int x3), none, none, none]) (stj := fun x3 => []) (fun k2 hk2 x3 σ4 => ?_) n 0 σ) ⟨Or.inr rfl, Or.inr rfl, Or.inr rfl, Or.inr rfl, Or.inr rfl, Or.inl rfl, Or.inl rfl, Or.inl rfl, trivial⟩
  refine kw_iload C d_Rows_restore_8 rfl ?_
  refine kw_aload_n C d_Rows_restore_10 rfl ?_
  refine kw_getI C fi_Rows_88 (Or.inl rfl) ho1 d_Rows_restore_11 ?_
  refine kw_icmp_ge (tgt := 53) C d_Rows_restore_14 (by decide) ?_ ?_
  · refine kw_iconst (v := 0) C d_Rows_restore_53 (by decide) ?_
    refine kw_istore (L' := [some (.ref t), some (.ref r0), some (.ref r1), some (.ref o1), some (.int 0), none, none, none]) C d_Rows_restore_54 (by decide) rfl ?_
    refine kw_wk (kw_l (α := Int32) (pc := 56) (Lj := fun x6 => [some (.ref t), some (.ref r0), some (.ref r1), some (.ref o1), some (.int x6), none, none, none]) (stj := fun x6 => []) (fun k5 hk5 x6 σ7 => ?_) n 0 σ4) ⟨Or.inr rfl, Or.inr rfl, Or.inr rfl, Or.inr rfl, Or.inr rfl, Or.inl rfl, Or.inl rfl, Or.inl rfl, trivial⟩
    refine kw_iload C d_Rows_restore_56 rfl ?_
    refine kw_aload_n C d_Rows_restore_58 rfl ?_
    refine kw_getI C fi_Rows_88 (Or.inl rfl) ho1 d_Rows_restore_59 ?_
    refine kw_icmp_ge (tgt := 157) C d_Rows_restore_62 (by decide) ?_ ?_
    · refine kw_aload_n C d_Rows_restore_157 rfl ?_
      refine kw_getI C fi_Rows_109 (Or.inl rfl) hr0 d_Rows_restore_158 ?_
      refine kw_iconst (v := 3) C d_Rows_restore_161 (by decide) ?_
      refine kw_j (α := Int32) (pcj := 178) (Lj := fun x9 => [none, none, none, none, none, none, none, none]) (stj := fun x9 => [.int x9]) (fun x9 σ10 => ?_) (fun k8 hk8 => ?_)
      · exact kw_zret C Ce rfl (by simp) (fun _ _ => rfl) (Nat.le_of_ble_eq_true rfl) (Nat.le_of_ble_eq_true rfl) rfl d_Rows_restore_178
      · refine kw_j (α := Unit) (pcj := 173) (Lj := fun x12 => [none, none, none, none, none, none, none, none]) (stj := fun x12 => []) (fun x12 σ13 => ?_) (fun k11 hk11 => ?_)
        · refine kw_iconst (v := 1) C d_Rows_restore_173 (by decide) ?_
          refine kw_goto (tgt := 178) C d_Rows_restore_174 (by decide) ?_
          exact kw_wk (hk8 1 σ13) ⟨Or.inl rfl, Or.inl rfl, Or.inl rfl, Or.inl rfl, Or.inl rfl, Or.inl rfl, Or.inl rfl, Or.inl rfl, trivial⟩
        · refine kw_icmp_ne (tgt := 173) C d_Rows_restore_162 (by decide) ?_ ?_
          · exact kw_wk (hk11 () σ7) ⟨Or.inl rfl, Or.inl rfl, Or.inl rfl, Or.inl rfl, Or.inl rfl, Or.inl rfl, Or.inl rfl, Or.inl rfl, trivial⟩
          · refine kw_aload_n C d_Rows_restore_165 rfl ?_
            refine kw_aload_n C d_Rows_restore_166 rfl ?_
            refine kw_callSi (cl' := 0) (sl' := 0) (As := [.ref r0, .ref r1]) C (c_Rows_allColoursThere hl n ids hr0 hr1  σ7) mi_Rows_112 s_Rows_allColoursThere ⟨Nat.le_of_ble_eq_true rfl, Nat.le_of_ble_eq_true rfl⟩ (Nat.le_of_ble_eq_true rfl) ⟨Nat.le_of_ble_eq_true rfl, Nat.le_of_ble_eq_true rfl⟩ ⟨rfl, rfl⟩ rfl d_Rows_restore_167 (fun x14 σ15 => ?_)
            refine kw_if_eq (tgt := 177) C d_Rows_restore_170 (by decide) ?_ ?_
            · refine kw_iconst (v := 0) C d_Rows_restore_177 (by decide) ?_
              exact kw_wk (hk8 0 σ15) ⟨Or.inl rfl, Or.inl rfl, Or.inl rfl, Or.inl rfl, Or.inl rfl, Or.inl rfl, Or.inl rfl, Or.inl rfl, trivial⟩
            · exact kw_wk (hk11 () σ15) ⟨Or.inl rfl, Or.inl rfl, Or.inl rfl, Or.inl rfl, Or.inl rfl, Or.inl rfl, Or.inl rfl, Or.inl rfl, trivial⟩
    · refine kw_aload_n C d_Rows_restore_65 rfl ?_
      refine kw_getR C fi_Rows_25 rfl rfl ho1 d_Rows_restore_66 (fun o16 ho16 => ?_)
      refine kw_iload C d_Rows_restore_69 rfl ?_
      refine kw_iald C (Or.inl ⟨ho16.1, ho16.2.1⟩) d_Rows_restore_71 ?_
      refine kw_iconst (v := 1) C d_Rows_restore_72 (by decide) ?_
      refine kw_iadd C d_Rows_restore_73 ?_
      refine kw_leti (fun x17 => ?_)
      refine kw_istore (L' := [some (.ref t), some (.ref r0), some (.ref r1), some (.ref o1), some (.int x6), some (.int x17), none, none]) C d_Rows_restore_74 (by decide) rfl ?_
      refine kw_aload_n C d_Rows_restore_76 rfl ?_
      refine kw_getR C fi_Rows_10 rfl rfl ht d_Rows_restore_77 (fun o18 ho18 => ?_)
      refine kw_iload C d_Rows_restore_80 rfl ?_
      refine kw_iconst (v := 1) C d_Rows_restore_82 (by decide) ?_
      refine kw_isub C d_Rows_restore_83 ?_
      refine kw_leti (fun x19 => ?_)
      refine kw_iald C (Or.inl ⟨ho18.1, ho18.2.1⟩) d_Rows_restore_84 ?_
      refine kw_leti (fun x20 => ?_)
      refine kw_istore (L' := [some (.ref t), some (.ref r0), some (.ref r1), some (.ref o1), some (.int x6), some (.int x17), some (.int x20), none]) C d_Rows_restore_85 (by decide) rfl ?_
      refine kw_iconst (v := 0) C d_Rows_restore_87 (by decide) ?_
      refine kw_istore (L' := [some (.ref t), some (.ref r0), some (.ref r1), some (.ref o1), some (.int x6), some (.int x17), some (.int x20), some (.int 0)]) C d_Rows_restore_88 (by decide) rfl ?_
      refine kw_wk (kw_l (α := Int32) (pc := 90) (Lj := fun x22 => [some (.ref t), some (.ref r0), some (.ref r1), some (.ref o1), some (.int x6), some (.int x17), some (.int x20), some (.int x22)]) (stj := fun x22 => []) (fun k21 hk21 x22 σ23 => ?_) n 0 σ7) ⟨Or.inr rfl, Or.inr rfl, Or.inr rfl, Or.inr rfl, Or.inr rfl, Or.inr rfl, Or.inr rfl, Or.inr rfl, trivial⟩
      refine kw_iload C d_Rows_restore_90 rfl ?_
      refine kw_aload_n C d_Rows_restore_92 rfl ?_
      refine kw_getR C fi_Rows_28 rfl rfl ho1 d_Rows_restore_93 (fun o24 ho24 => ?_)
      refine kw_iload C d_Rows_restore_96 rfl ?_
      refine kw_iald C (Or.inl ⟨ho24.1, ho24.2.1⟩) d_Rows_restore_98 ?_
      refine kw_icmp_ge (tgt := 144) C d_Rows_restore_99 (by decide) ?_ ?_
      · refine kw_aload_n C d_Rows_restore_144 rfl ?_
        refine kw_aload_n C d_Rows_restore_145 rfl ?_
        refine kw_iload C d_Rows_restore_146 rfl ?_
        refine kw_callVv (cl' := 0) (sl' := 0) (As := [.ref r0, .int x6]) C (c_Rows_scatter hl n ids ht hr0 x6 σ23) mi_Rows_106 v_Rows_scatter ⟨_, _, rfl⟩ ht ⟨Nat.le_of_ble_eq_true rfl, Nat.le_of_ble_eq_true rfl⟩ (Nat.le_of_ble_eq_true rfl) ⟨Nat.le_of_ble_eq_true rfl, Nat.le_of_ble_eq_true rfl⟩ ⟨rfl, rfl⟩ rfl d_Rows_restore_148 (fun σ25 => ?_)
        refine kw_iincL (L2 := fun x26 => [some (.ref t), some (.ref r0), some (.ref r1), some (.ref o1), some (.int x26), some (.int x17), some (.int x20), some (.int x22)]) C d_Rows_restore_151 (by decide) rfl (fun _ => rfl) (fun x26 => ?_)
        refine kw_goto (tgt := 56) C d_Rows_restore_154 (by decide) ?_
        exact kw_wk (hk5 x26 σ25) ⟨Or.inr rfl, Or.inr rfl, Or.inr rfl, Or.inr rfl, Or.inr rfl, Or.inl rfl, Or.inl rfl, Or.inl rfl, trivial⟩
      · refine kw_aload_n C d_Rows_restore_102 rfl ?_
        refine kw_getR C fi_Rows_16 rfl rfl ht d_Rows_restore_103 (fun o27 ho27 => ?_)
        refine kw_iload C d_Rows_restore_106 rfl ?_
        refine kw_iload C d_Rows_restore_108 rfl ?_
        refine kw_iadd C d_Rows_restore_110 ?_
        refine kw_aload_n C d_Rows_restore_111 rfl ?_
        refine kw_getR C fi_Rows_10 rfl rfl ht d_Rows_restore_112 (fun o28 ho28 => ?_)
        refine kw_iload C d_Rows_restore_115 rfl ?_
        refine kw_iload C d_Rows_restore_117 rfl ?_
        refine kw_iadd C d_Rows_restore_119 ?_
        refine kw_leti (fun x29 => ?_)
        refine kw_iald C (Or.inl ⟨ho28.1, ho28.2.1⟩) d_Rows_restore_120 ?_
        refine kw_aload_n C d_Rows_restore_121 rfl ?_
        refine kw_aload_n C d_Rows_restore_122 rfl ?_
        refine kw_iload C d_Rows_restore_123 rfl ?_
        refine kw_iload C d_Rows_restore_125 rfl ?_
        refine kw_iload C d_Rows_restore_127 rfl ?_
        refine kw_callVi (cl' := 0) (sl' := 0) (As := [.ref o1, .int x6, .int x22, .int x20]) C (c_Rows_guess hl n ids ht ho1 x6 x22 x20 σ23) mi_Rows_69 v_Rows_guess ⟨_, _, rfl⟩ ht ⟨Nat.le_of_ble_eq_true rfl, Nat.le_of_ble_eq_true rfl⟩ (Nat.le_of_ble_eq_true rfl) ⟨Nat.le_of_ble_eq_true rfl, Nat.le_of_ble_eq_true rfl⟩ ⟨rfl, rfl⟩ rfl d_Rows_restore_129 (fun x30 σ31 => ?_)
        refine kw_iadd C d_Rows_restore_132 ?_
        refine kw_sipush (v := 255) C d_Rows_restore_133 (by decide) ?_
        refine kw_iand C d_Rows_restore_136 ?_
        refine kw_iast C ho27 d_Rows_restore_137 (fun σ32 => ?_)
        refine kw_iincL (L2 := fun x33 => [some (.ref t), some (.ref r0), some (.ref r1), some (.ref o1), some (.int x6), some (.int x17), some (.int x20), some (.int x33)]) C d_Rows_restore_138 (by decide) rfl (fun _ => rfl) (fun x33 => ?_)
        refine kw_goto (tgt := 90) C d_Rows_restore_141 (by decide) ?_
        exact kw_wk (hk21 x33 σ32) ⟨Or.inr rfl, Or.inr rfl, Or.inr rfl, Or.inr rfl, Or.inr rfl, Or.inr rfl, Or.inr rfl, Or.inr rfl, trivial⟩
  · refine kw_aload_n C d_Rows_restore_17 rfl ?_
    refine kw_getR C fi_Rows_10 rfl rfl ht d_Rows_restore_18 (fun o34 ho34 => ?_)
    refine kw_aload_n C d_Rows_restore_21 rfl ?_
    refine kw_getR C fi_Rows_25 rfl rfl ho1 d_Rows_restore_22 (fun o35 ho35 => ?_)
    refine kw_iload C d_Rows_restore_25 rfl ?_
    refine kw_iald C (Or.inl ⟨ho35.1, ho35.2.1⟩) d_Rows_restore_27 ?_
    refine kw_leti (fun x36 => ?_)
    refine kw_iald C (Or.inl ⟨ho34.1, ho34.2.1⟩) d_Rows_restore_28 ?_
    refine kw_iconst (v := 5) C d_Rows_restore_29 (by decide) ?_
    refine kw_icmp_lt (tgt := 47) C d_Rows_restore_30 (by decide) ?_ ?_
    · refine kw_iincL (L2 := fun x37 => [some (.ref t), some (.ref r0), some (.ref r1), some (.ref o1), some (.int x37), none, none, none]) C d_Rows_restore_47 (by decide) rfl (fun _ => rfl) (fun x37 => ?_)
      refine kw_goto (tgt := 8) C d_Rows_restore_50 (by decide) ?_
      exact kw_wk (hk2 x37 σ4) ⟨Or.inr rfl, Or.inr rfl, Or.inr rfl, Or.inr rfl, Or.inr rfl, Or.inl rfl, Or.inl rfl, Or.inl rfl, trivial⟩
    · refine kw_aload_n C d_Rows_restore_33 rfl ?_
      refine kw_bipush (v := 30) C d_Rows_restore_34 (by decide) ?_
      refine kw_aload_n C d_Rows_restore_36 rfl ?_
      refine kw_getR C fi_Rows_25 rfl rfl ho1 d_Rows_restore_37 (fun o38 ho38 => ?_)
      refine kw_iload C d_Rows_restore_40 rfl ?_
      refine kw_iald C (Or.inl ⟨ho38.1, ho38.2.1⟩) d_Rows_restore_42 ?_
      refine kw_callVi (cl' := 0) (sl' := 0) (As := [.int 30, .int (gB σ4 o38 x3.toNatClampNeg)]) C (c_Fault_refuse hl n ids hr1 30 (gB σ4 o38 x3.toNatClampNeg) σ4) mi_Rows_100 v_Fault_refuse ⟨_, _, rfl⟩ hr1 ⟨Nat.le_of_ble_eq_true rfl, Nat.le_of_ble_eq_true rfl⟩ (Nat.le_of_ble_eq_true rfl) ⟨Nat.le_of_ble_eq_true rfl, Nat.le_of_ble_eq_true rfl⟩ ⟨rfl, rfl⟩ rfl d_Rows_restore_43 (fun x39 σ40 => ?_)
      exact kw_zret C Ce rfl (by simp) (fun _ _ => rfl) (Nat.le_of_ble_eq_true rfl) (Nat.le_of_ble_eq_true rfl) rfl d_Rows_restore_46
/-! PF_read -/
def rm_PF_read : Room := { frames := 6, cells := 0, slots := 0, locals := 152 }
def F_PF_read (n : Nat) (t : Nat) (σ : Mm) : Option (Int32 × Mm) :=
Option.bind (gR σ (64 * t + 1)) fun o1 =>
Option.bind (F_Fault_clear n o1 σ) fun σ2 =>
Option.bind (gR σ2 (64 * t + 2)) fun o3 =>
Option.bind (gR σ2 (64 * t + 7)) fun o4 =>
kf_c2 (F_Pieces_walk n o3 o4 σ2) fun x5 σ6 =>
kf_j (α := Int32) (fun x8 σ9 =>
if x8 = 0 then (
Option.bind (gR σ9 (64 * t + 1)) fun o15 =>
some (gS σ9 (64 * o15 + 1), σ9)) else (
Option.bind (gR σ9 (64 * t + 6)) fun o10 =>
Option.bind (gR σ9 (64 * t + 7)) fun o11 =>
kf_let (pR σ9 (64 * t + 6) (some o11)) fun σ12 =>
kf_let (pR σ12 (64 * t + 7) (some o10)) fun σ13 =>
kf_z 1 <| kf_let (pS σ13 (64 * t + 8) 1) fun σ14 =>
some (-1, σ14))) fun k7 =>
kf_j (α := Unit) (fun x17 σ18 =>
k7 0 σ18) fun k16 =>
if x5 = 0 then (
k16 () σ6) else (
Option.bind (gR σ6 (64 * t + 3)) fun o19 =>
Option.bind (gR σ6 (64 * t + 7)) fun o20 =>
Option.bind (gR σ6 (64 * o20 + 11)) fun o21 =>
kf_c2 (F_Unpacker_unpack n o19 (gS σ6 (64 * o21 + 1)) σ6) fun x22 σ23 =>
if x22 = 0 then (
k16 () σ23) else (
Option.bind (gR σ23 (64 * t + 4)) fun o24 =>
Option.bind (gR σ23 (64 * t + 7)) fun o25 =>
Option.bind (gR σ23 (64 * t + 1)) fun o26 =>
kf_c2 (F_Rows_restore n o24 o25 o26 σ23) fun x27 σ28 =>
if x27 = 0 then (
k16 () σ28) else (
k7 1 σ28)))
theorem d_PF_read_0 : decode prog_1_method_4_code 0 = .ok (.aload_n 0, 1) := by decide +kernel
theorem d_PF_read_1 : decode prog_1_method_4_code 1 = .ok (.getfield 19, 3) := by decide +kernel
theorem d_PF_read_4 : decode prog_1_method_4_code 4 = .ok (.invokevirtual 91, 3) := by decide +kernel
theorem d_PF_read_7 : decode prog_1_method_4_code 7 = .ok (.aload_n 0, 1) := by decide +kernel
theorem d_PF_read_8 : decode prog_1_method_4_code 8 = .ok (.getfield 40, 3) := by decide +kernel
theorem d_PF_read_11 : decode prog_1_method_4_code 11 = .ok (.aload_n 0, 1) := by decide +kernel
theorem d_PF_read_12 : decode prog_1_method_4_code 12 = .ok (.getfield 69, 3) := by decide +kernel
theorem d_PF_read_15 : decode prog_1_method_4_code 15 = .ok (.invokevirtual 94, 3) := by decide +kernel
theorem d_PF_read_18 : decode prog_1_method_4_code 18 = .ok (.ifCond .eq 45, 3) := by decide +kernel
theorem d_PF_read_21 : decode prog_1_method_4_code 21 = .ok (.aload_n 0, 1) := by decide +kernel
theorem d_PF_read_22 : decode prog_1_method_4_code 22 = .ok (.getfield 49, 3) := by decide +kernel
theorem d_PF_read_25 : decode prog_1_method_4_code 25 = .ok (.aload_n 0, 1) := by decide +kernel
theorem d_PF_read_26 : decode prog_1_method_4_code 26 = .ok (.getfield 69, 3) := by decide +kernel
theorem d_PF_read_29 : decode prog_1_method_4_code 29 = .ok (.getfield 98, 3) := by decide +kernel
theorem d_PF_read_32 : decode prog_1_method_4_code 32 = .ok (.getfield 102, 3) := by decide +kernel
theorem d_PF_read_35 : decode prog_1_method_4_code 35 = .ok (.invokevirtual 107, 3) := by decide +kernel
theorem d_PF_read_38 : decode prog_1_method_4_code 38 = .ok (.ifCond .eq 25, 3) := by decide +kernel
theorem d_PF_read_41 : decode prog_1_method_4_code 41 = .ok (.aload_n 0, 1) := by decide +kernel
theorem d_PF_read_42 : decode prog_1_method_4_code 42 = .ok (.getfield 26, 3) := by decide +kernel
theorem d_PF_read_45 : decode prog_1_method_4_code 45 = .ok (.aload_n 0, 1) := by decide +kernel
theorem d_PF_read_46 : decode prog_1_method_4_code 46 = .ok (.getfield 69, 3) := by decide +kernel
theorem d_PF_read_49 : decode prog_1_method_4_code 49 = .ok (.aload_n 0, 1) := by decide +kernel
theorem d_PF_read_50 : decode prog_1_method_4_code 50 = .ok (.getfield 19, 3) := by decide +kernel
theorem d_PF_read_53 : decode prog_1_method_4_code 53 = .ok (.invokevirtual 111, 3) := by decide +kernel
theorem d_PF_read_56 : decode prog_1_method_4_code 56 = .ok (.ifCond .eq 7, 3) := by decide +kernel
theorem d_PF_read_59 : decode prog_1_method_4_code 59 = .ok (.iconst 1, 1) := by decide +kernel
theorem d_PF_read_60 : decode prog_1_method_4_code 60 = .ok (.goto 4, 3) := by decide +kernel
theorem d_PF_read_63 : decode prog_1_method_4_code 63 = .ok (.iconst 0, 1) := by decide +kernel
theorem d_PF_read_64 : decode prog_1_method_4_code 64 = .ok (.istore_n 1, 1) := by decide +kernel
theorem d_PF_read_65 : decode prog_1_method_4_code 65 = .ok (.iload_n 1, 1) := by decide +kernel
theorem d_PF_read_66 : decode prog_1_method_4_code 66 = .ok (.ifCond .ne 11, 3) := by decide +kernel
theorem d_PF_read_69 : decode prog_1_method_4_code 69 = .ok (.aload_n 0, 1) := by decide +kernel
theorem d_PF_read_70 : decode prog_1_method_4_code 70 = .ok (.getfield 19, 3) := by decide +kernel
theorem d_PF_read_73 : decode prog_1_method_4_code 73 = .ok (.getfield 115, 3) := by decide +kernel
theorem d_PF_read_76 : decode prog_1_method_4_code 76 = .ok (.ireturn, 1) := by decide +kernel
theorem d_PF_read_77 : decode prog_1_method_4_code 77 = .ok (.aload_n 0, 1) := by decide +kernel
theorem d_PF_read_78 : decode prog_1_method_4_code 78 = .ok (.getfield 65, 3) := by decide +kernel
theorem d_PF_read_81 : decode prog_1_method_4_code 81 = .ok (.astore_n 2, 1) := by decide +kernel
theorem d_PF_read_82 : decode prog_1_method_4_code 82 = .ok (.aload_n 0, 1) := by decide +kernel
theorem d_PF_read_83 : decode prog_1_method_4_code 83 = .ok (.aload_n 0, 1) := by decide +kernel
theorem d_PF_read_84 : decode prog_1_method_4_code 84 = .ok (.getfield 69, 3) := by decide +kernel
theorem d_PF_read_87 : decode prog_1_method_4_code 87 = .ok (.putfield 65, 3) := by decide +kernel
theorem d_PF_read_90 : decode prog_1_method_4_code 90 = .ok (.aload_n 0, 1) := by decide +kernel
theorem d_PF_read_91 : decode prog_1_method_4_code 91 = .ok (.aload_n 2, 1) := by decide +kernel
theorem d_PF_read_92 : decode prog_1_method_4_code 92 = .ok (.putfield 69, 3) := by decide +kernel
theorem d_PF_read_95 : decode prog_1_method_4_code 95 = .ok (.aload_n 0, 1) := by decide +kernel
theorem d_PF_read_96 : decode prog_1_method_4_code 96 = .ok (.iconst 1, 1) := by decide +kernel
theorem d_PF_read_97 : decode prog_1_method_4_code 97 = .ok (.putfield 72, 3) := by decide +kernel
theorem d_PF_read_100 : decode prog_1_method_4_code 100 = .ok (.iconst (-1), 1) := by decide +kernel
theorem d_PF_read_101 : decode prog_1_method_4_code 101 = .ok (.ireturn, 1) := by decide +kernel
set_option maxRecDepth 100000 in
set_option maxHeartbeats 4000000 in
theorem c_PF_read {l0 : Launch} (hl : l0.stackTraces = false) (n : Nat) (ids : List Nat) {t : Nat} (ht : mm_ok ids t 1 0)  (σ : Mm) : kw_C l0 y_PF_read (Cond.code y_PF_read prog_1_method_4_code 3 (some .int) :: kw_Ts) rm_PF_read kw_oi ids [] [.ref t] σ (F_PF_read n t σ) := by
  refine kw_start (L0 := [some (.ref t), none, none]) hl (by decide +kernel) (Nat.le_of_ble_eq_true rfl) rfl (fun Γ ad C Ce => ?_)
  unfold F_PF_read
  refine kw_aload_n C d_PF_read_0 rfl ?_
  refine kw_getR C fi_PF_19 rfl rfl ht d_PF_read_1 (fun o1 ho1 => ?_)
  refine kw_callVv (cl' := 0) (sl' := 0) (As := []) C (c_Fault_clear hl n ids ho1  σ) mi_PF_91 v_Fault_clear ⟨_, _, rfl⟩ ho1 ⟨Nat.le_of_ble_eq_true rfl, Nat.le_of_ble_eq_true rfl⟩ (Nat.le_of_ble_eq_true rfl) ⟨Nat.le_of_ble_eq_true rfl, Nat.le_of_ble_eq_true rfl⟩ ⟨rfl, rfl⟩ rfl d_PF_read_4 (fun σ2 => ?_)
  refine kw_aload_n C d_PF_read_7 rfl ?_
  refine kw_getR C fi_PF_40 rfl rfl ht d_PF_read_8 (fun o3 ho3 => ?_)
  refine kw_aload_n C d_PF_read_11 rfl ?_
  refine kw_getR C fi_PF_69 rfl rfl ht d_PF_read_12 (fun o4 ho4 => ?_)
  refine kw_callVi (cl' := 0) (sl' := 0) (As := [.ref o4]) C (c_Pieces_walk hl n ids ho3 ho4  σ2) mi_PF_94 v_Pieces_walk ⟨_, _, rfl⟩ ho3 ⟨Nat.le_of_ble_eq_true rfl, Nat.le_of_ble_eq_true rfl⟩ (Nat.le_of_ble_eq_true rfl) ⟨Nat.le_of_ble_eq_true rfl, Nat.le_of_ble_eq_true rfl⟩ ⟨rfl, rfl⟩ rfl d_PF_read_15 (fun x5 σ6 => ?_)
  refine kw_j (α := Int32) (pcj := 64) (Lj := fun x8 => [some (.ref t), none, none]) (stj := fun x8 => [.int x8]) (fun x8 σ9 => ?_) (fun k7 hk7 => ?_)
  · refine kw_istore_n (L' := [some (.ref t), some (.int x8), none]) C d_PF_read_64 (by decide) rfl ?_
    refine kw_iload_n C d_PF_read_65 rfl ?_
    refine kw_if_ne (tgt := 77) C d_PF_read_66 (by decide) ?_ ?_
    · refine kw_aload_n C d_PF_read_77 rfl ?_
      refine kw_getR C fi_PF_65 rfl rfl ht d_PF_read_78 (fun o10 ho10 => ?_)
      refine kw_astore_n (L' := [some (.ref t), some (.int x8), some (.ref o10)]) C d_PF_read_81 (by decide) rfl ?_
      refine kw_aload_n C d_PF_read_82 rfl ?_
      refine kw_aload_n C d_PF_read_83 rfl ?_
      refine kw_getR C fi_PF_69 rfl rfl ht d_PF_read_84 (fun o11 ho11 => ?_)
      refine kw_putO C fi_PF_65 rfl rfl ht ho11 d_PF_read_87 (fun σ12 => ?_)
      refine kw_aload_n C d_PF_read_90 rfl ?_
      refine kw_aload_n C d_PF_read_91 rfl ?_
      refine kw_putO C fi_PF_69 rfl rfl ht ho10 d_PF_read_92 (fun σ13 => ?_)
      refine kw_aload_n C d_PF_read_95 rfl ?_
      refine kw_iconst (v := 1) C d_PF_read_96 (by decide) ?_
      refine kw_putZ C fi_PF_72 rfl ht d_PF_read_97 (fun σ14 => ?_)
      refine kw_iconst (v := -1) C d_PF_read_100 (by decide) ?_
      exact kw_iret C Ce rfl (by simp) (fun _ _ => rfl) (Nat.le_of_ble_eq_true rfl) (Nat.le_of_ble_eq_true rfl) rfl d_PF_read_101
    · refine kw_aload_n C d_PF_read_69 rfl ?_
      refine kw_getR C fi_PF_19 rfl rfl ht d_PF_read_70 (fun o15 ho15 => ?_)
      refine kw_getI C fi_PF_115 (Or.inl rfl) ho15 d_PF_read_73 ?_
      exact kw_iret C Ce rfl (by simp) (fun _ _ => rfl) (Nat.le_of_ble_eq_true rfl) (Nat.le_of_ble_eq_true rfl) rfl d_PF_read_76
  · refine kw_j (α := Unit) (pcj := 63) (Lj := fun x17 => [some (.ref t), none, none]) (stj := fun x17 => []) (fun x17 σ18 => ?_) (fun k16 hk16 => ?_)
    · refine kw_iconst (v := 0) C d_PF_read_63 (by decide) ?_
      exact kw_wk (hk7 0 σ18) ⟨Or.inr rfl, Or.inl rfl, Or.inl rfl, trivial⟩
    · refine kw_if_eq (tgt := 63) C d_PF_read_18 (by decide) ?_ ?_
      · exact kw_wk (hk16 () σ6) ⟨Or.inr rfl, Or.inl rfl, Or.inl rfl, trivial⟩
      · refine kw_aload_n C d_PF_read_21 rfl ?_
        refine kw_getR C fi_PF_49 rfl rfl ht d_PF_read_22 (fun o19 ho19 => ?_)
        refine kw_aload_n C d_PF_read_25 rfl ?_
        refine kw_getR C fi_PF_69 rfl rfl ht d_PF_read_26 (fun o20 ho20 => ?_)
        refine kw_getR C fi_PF_98 rfl rfl ho20 d_PF_read_29 (fun o21 ho21 => ?_)
        refine kw_getI C fi_PF_102 (Or.inl rfl) ho21 d_PF_read_32 ?_
        refine kw_callVi (cl' := 0) (sl' := 0) (As := [.int (gS σ6 (64 * o21 + 1))]) C (c_Unpacker_unpack hl n ids ho19 (gS σ6 (64 * o21 + 1)) σ6) mi_PF_107 v_Unpacker_unpack ⟨_, _, rfl⟩ ho19 ⟨Nat.le_of_ble_eq_true rfl, Nat.le_of_ble_eq_true rfl⟩ (Nat.le_of_ble_eq_true rfl) ⟨Nat.le_of_ble_eq_true rfl, Nat.le_of_ble_eq_true rfl⟩ ⟨rfl, rfl⟩ rfl d_PF_read_35 (fun x22 σ23 => ?_)
        refine kw_if_eq (tgt := 63) C d_PF_read_38 (by decide) ?_ ?_
        · exact kw_wk (hk16 () σ23) ⟨Or.inr rfl, Or.inl rfl, Or.inl rfl, trivial⟩
        · refine kw_aload_n C d_PF_read_41 rfl ?_
          refine kw_getR C fi_PF_26 rfl rfl ht d_PF_read_42 (fun o24 ho24 => ?_)
          refine kw_aload_n C d_PF_read_45 rfl ?_
          refine kw_getR C fi_PF_69 rfl rfl ht d_PF_read_46 (fun o25 ho25 => ?_)
          refine kw_aload_n C d_PF_read_49 rfl ?_
          refine kw_getR C fi_PF_19 rfl rfl ht d_PF_read_50 (fun o26 ho26 => ?_)
          refine kw_callVi (cl' := 0) (sl' := 0) (As := [.ref o25, .ref o26]) C (c_Rows_restore hl n ids ho24 ho25 ho26  σ23) mi_PF_111 v_Rows_restore ⟨_, _, rfl⟩ ho24 ⟨Nat.le_of_ble_eq_true rfl, Nat.le_of_ble_eq_true rfl⟩ (Nat.le_of_ble_eq_true rfl) ⟨Nat.le_of_ble_eq_true rfl, Nat.le_of_ble_eq_true rfl⟩ ⟨rfl, rfl⟩ rfl d_PF_read_53 (fun x27 σ28 => ?_)
          refine kw_if_eq (tgt := 63) C d_PF_read_56 (by decide) ?_ ?_
          · exact kw_wk (hk16 () σ28) ⟨Or.inr rfl, Or.inl rfl, Or.inl rfl, trivial⟩
          · refine kw_iconst (v := 1) C d_PF_read_59 (by decide) ?_
            refine kw_goto (tgt := 64) C d_PF_read_60 (by decide) ?_
            exact kw_wk (hk7 1 σ28) ⟨Or.inr rfl, Or.inl rfl, Or.inl rfl, trivial⟩
/-! PF_fault -/
def rm_PF_fault : Room := { frames := 0, cells := 0, slots := 0, locals := 0 }
def F_PF_fault (n : Nat) (t : Nat) (σ : Mm) : Option (Int32 × Mm) :=
Option.bind (gR σ (64 * t + 1)) fun o1 =>
some (gS σ (64 * o1 + 0), σ)
theorem d_PF_fault_0 : decode prog_1_method_5_code 0 = .ok (.aload_n 0, 1) := by decide +kernel
theorem d_PF_fault_1 : decode prog_1_method_5_code 1 = .ok (.getfield 19, 3) := by decide +kernel
theorem d_PF_fault_4 : decode prog_1_method_5_code 4 = .ok (.getfield 118, 3) := by decide +kernel
theorem d_PF_fault_7 : decode prog_1_method_5_code 7 = .ok (.ireturn, 1) := by decide +kernel
set_option maxRecDepth 100000 in
set_option maxHeartbeats 4000000 in
theorem c_PF_fault {l0 : Launch} (hl : l0.stackTraces = false) (n : Nat) (ids : List Nat) {t : Nat} (ht : mm_ok ids t 1 0)  (σ : Mm) : kw_C l0 y_PF_fault (Cond.code y_PF_fault prog_1_method_5_code 1 (some .int) :: kw_Ts) rm_PF_fault kw_oi ids [] [.ref t] σ (F_PF_fault n t σ) := by
  refine kw_start (L0 := [some (.ref t)]) hl (by decide +kernel) (Nat.le_of_ble_eq_true rfl) rfl (fun Γ ad C Ce => ?_)
  unfold F_PF_fault
  refine kw_aload_n C d_PF_fault_0 rfl ?_
  refine kw_getR C fi_PF_19 rfl rfl ht d_PF_fault_1 (fun o1 ho1 => ?_)
  refine kw_getI C fi_PF_118 (Or.inl rfl) ho1 d_PF_fault_4 ?_
  exact kw_iret C Ce rfl (by simp) (fun _ _ => rfl) (Nat.le_of_ble_eq_true rfl) (Nat.le_of_ble_eq_true rfl) rfl d_PF_fault_7
/-! PF_make -/
def rm_PF_make : Room := { frames := 6, cells := 1, slots := 6, locals := 89 }
def F_PF_make (n : Nat) (t : Nat) (a0 : Int32) (a1 : Int32) (a2 : Int32) (a3 : Int32) (a4 : Int32) (σ : Mm) : Option ((Unit ⊕ String) × Mm) :=
kf_c2 (F_Picture_isSize n a0 σ) fun x1 σ2 =>
kf_j (α := Unit) (fun x4 σ5 =>
some (.inr "java/lang/IllegalArgumentException", σ5)) fun k3 =>
if x1 = 0 then (
k3 () σ2) else (
kf_c2 (F_Picture_isSize n a1 σ2) fun x6 σ7 =>
if x6 = 0 then (
k3 () σ7) else (
kf_c2 (F_Picture_kindHas n a2 a3 σ7) fun x8 σ9 =>
if x8 = 0 then (
k3 () σ9) else (
Option.bind (gR σ9 (64 * t + 6)) fun o10 =>
Option.bind (F_Picture_begin n o10 a0 a1 a2 a3 a4 σ9) fun σ11 =>
kf_j (α := Unit) (fun x13 σ14 =>
kf_z 1 <| kf_let (pS σ14 (64 * t + 8) 1) fun σ15 =>
some (.inl (), σ15)) fun k12 =>
if a2 = 3 then (
Option.bind (gR σ11 (64 * t + 6)) fun o16 =>
Option.bind (F_Picture_addColour n o16 0 0 0 σ11) fun σ17 =>
k12 () σ17) else (
k12 () σ11))))
theorem d_PF_make_0 : decode prog_1_method_6_code 0 = .ok (.iload_n 1, 1) := by decide +kernel
theorem d_PF_make_1 : decode prog_1_method_6_code 1 = .ok (.invokestatic 121, 3) := by decide +kernel
theorem d_PF_make_4 : decode prog_1_method_6_code 4 = .ok (.ifCond .eq 19, 3) := by decide +kernel
theorem d_PF_make_7 : decode prog_1_method_6_code 7 = .ok (.iload_n 2, 1) := by decide +kernel
theorem d_PF_make_8 : decode prog_1_method_6_code 8 = .ok (.invokestatic 121, 3) := by decide +kernel
theorem d_PF_make_11 : decode prog_1_method_6_code 11 = .ok (.ifCond .eq 12, 3) := by decide +kernel
theorem d_PF_make_14 : decode prog_1_method_6_code 14 = .ok (.iload_n 3, 1) := by decide +kernel
theorem d_PF_make_15 : decode prog_1_method_6_code 15 = .ok (.iload 4, 2) := by decide +kernel
theorem d_PF_make_17 : decode prog_1_method_6_code 17 = .ok (.invokestatic 124, 3) := by decide +kernel
theorem d_PF_make_20 : decode prog_1_method_6_code 20 = .ok (.ifCond .ne 11, 3) := by decide +kernel
theorem d_PF_make_23 : decode prog_1_method_6_code 23 = .ok (.new 88, 3) := by decide +kernel
theorem d_PF_make_26 : decode prog_1_method_6_code 26 = .ok (.dup, 1) := by decide +kernel
theorem d_PF_make_27 : decode prog_1_method_6_code 27 = .ok (.invokespecial 90, 3) := by decide +kernel
theorem d_PF_make_30 : decode prog_1_method_6_code 30 = .ok (.athrow, 1) := by decide +kernel
theorem d_PF_make_31 : decode prog_1_method_6_code 31 = .ok (.aload_n 0, 1) := by decide +kernel
theorem d_PF_make_32 : decode prog_1_method_6_code 32 = .ok (.getfield 65, 3) := by decide +kernel
theorem d_PF_make_35 : decode prog_1_method_6_code 35 = .ok (.iload_n 1, 1) := by decide +kernel
theorem d_PF_make_36 : decode prog_1_method_6_code 36 = .ok (.iload_n 2, 1) := by decide +kernel
theorem d_PF_make_37 : decode prog_1_method_6_code 37 = .ok (.iload_n 3, 1) := by decide +kernel
theorem d_PF_make_38 : decode prog_1_method_6_code 38 = .ok (.iload 4, 2) := by decide +kernel
theorem d_PF_make_40 : decode prog_1_method_6_code 40 = .ok (.iload 5, 2) := by decide +kernel
theorem d_PF_make_42 : decode prog_1_method_6_code 42 = .ok (.invokevirtual 128, 3) := by decide +kernel
theorem d_PF_make_45 : decode prog_1_method_6_code 45 = .ok (.iload_n 3, 1) := by decide +kernel
theorem d_PF_make_46 : decode prog_1_method_6_code 46 = .ok (.iconst 3, 1) := by decide +kernel
theorem d_PF_make_47 : decode prog_1_method_6_code 47 = .ok (.if_icmp .ne 13, 3) := by decide +kernel
theorem d_PF_make_50 : decode prog_1_method_6_code 50 = .ok (.aload_n 0, 1) := by decide +kernel
theorem d_PF_make_51 : decode prog_1_method_6_code 51 = .ok (.getfield 65, 3) := by decide +kernel
theorem d_PF_make_54 : decode prog_1_method_6_code 54 = .ok (.iconst 0, 1) := by decide +kernel
theorem d_PF_make_55 : decode prog_1_method_6_code 55 = .ok (.iconst 0, 1) := by decide +kernel
theorem d_PF_make_56 : decode prog_1_method_6_code 56 = .ok (.iconst 0, 1) := by decide +kernel
theorem d_PF_make_57 : decode prog_1_method_6_code 57 = .ok (.invokevirtual 132, 3) := by decide +kernel
theorem d_PF_make_60 : decode prog_1_method_6_code 60 = .ok (.aload_n 0, 1) := by decide +kernel
theorem d_PF_make_61 : decode prog_1_method_6_code 61 = .ok (.iconst 1, 1) := by decide +kernel
theorem d_PF_make_62 : decode prog_1_method_6_code 62 = .ok (.putfield 72, 3) := by decide +kernel
theorem d_PF_make_65 : decode prog_1_method_6_code 65 = .ok (.return_, 1) := by decide +kernel
set_option maxRecDepth 100000 in
set_option maxHeartbeats 4000000 in
theorem c_PF_make {l0 : Launch} (hl : l0.stackTraces = false) (n : Nat) (ids : List Nat) {t : Nat} (ht : mm_ok ids t 1 0) (a0 : Int32) (a1 : Int32) (a2 : Int32) (a3 : Int32) (a4 : Int32) (σ : Mm) : kw_C l0 y_PF_make (Cond.code y_PF_make prog_1_method_6_code 6 none :: kw_Ts) rm_PF_make kw_otv ids [] [.ref t, .int a0, .int a1, .int a2, .int a3, .int a4] σ (F_PF_make n t a0 a1 a2 a3 a4 σ) := by
  refine kw_start (L0 := [some (.ref t), some (.int a0), some (.int a1), some (.int a2), some (.int a3), some (.int a4)]) hl (by decide +kernel) (Nat.le_of_ble_eq_true rfl) rfl (fun Γ ad C Ce => ?_)
  unfold F_PF_make
  refine kw_iload_n C d_PF_make_0 rfl ?_
  refine kw_callSi (cl' := 0) (sl' := 0) (As := [.int a0]) C (c_Picture_isSize hl n ids  a0 σ) mi_PF_121 s_Picture_isSize ⟨Nat.le_of_ble_eq_true rfl, Nat.le_of_ble_eq_true rfl⟩ (Nat.le_of_ble_eq_true rfl) ⟨Nat.le_of_ble_eq_true rfl, Nat.le_of_ble_eq_true rfl⟩ ⟨rfl, rfl⟩ rfl d_PF_make_1 (fun x1 σ2 => ?_)
  refine kw_j (α := Unit) (pcj := 23) (Lj := fun x4 => [none, none, none, none, none, none]) (stj := fun x4 => []) (fun x4 σ5 => ?_) (fun k3 hk3 => ?_)
  · exact kw_throw0 C Ce ti_PF_88_90 (by simp) (fun _ _ => rfl) (Nat.le_of_ble_eq_true rfl) (Nat.le_of_ble_eq_true rfl) (Nat.le_of_ble_eq_true rfl) (Nat.le_of_ble_eq_true rfl) d_PF_make_23 d_PF_make_26 d_PF_make_27 d_PF_make_30 rfl
  · refine kw_if_eq (tgt := 23) C d_PF_make_4 (by decide) ?_ ?_
    · exact kw_wk (hk3 () σ2) ⟨Or.inl rfl, Or.inl rfl, Or.inl rfl, Or.inl rfl, Or.inl rfl, Or.inl rfl, trivial⟩
    · refine kw_iload_n C d_PF_make_7 rfl ?_
      refine kw_callSi (cl' := 0) (sl' := 0) (As := [.int a1]) C (c_Picture_isSize hl n ids  a1 σ2) mi_PF_121 s_Picture_isSize ⟨Nat.le_of_ble_eq_true rfl, Nat.le_of_ble_eq_true rfl⟩ (Nat.le_of_ble_eq_true rfl) ⟨Nat.le_of_ble_eq_true rfl, Nat.le_of_ble_eq_true rfl⟩ ⟨rfl, rfl⟩ rfl d_PF_make_8 (fun x6 σ7 => ?_)
      refine kw_if_eq (tgt := 23) C d_PF_make_11 (by decide) ?_ ?_
      · exact kw_wk (hk3 () σ7) ⟨Or.inl rfl, Or.inl rfl, Or.inl rfl, Or.inl rfl, Or.inl rfl, Or.inl rfl, trivial⟩
      · refine kw_iload_n C d_PF_make_14 rfl ?_
        refine kw_iload C d_PF_make_15 rfl ?_
        refine kw_callSi (cl' := 0) (sl' := 0) (As := [.int a2, .int a3]) C (c_Picture_kindHas hl n ids  a2 a3 σ7) mi_PF_124 s_Picture_kindHas ⟨Nat.le_of_ble_eq_true rfl, Nat.le_of_ble_eq_true rfl⟩ (Nat.le_of_ble_eq_true rfl) ⟨Nat.le_of_ble_eq_true rfl, Nat.le_of_ble_eq_true rfl⟩ ⟨rfl, rfl⟩ rfl d_PF_make_17 (fun x8 σ9 => ?_)
        refine kw_if_ne (tgt := 31) C d_PF_make_20 (by decide) ?_ ?_
        · refine kw_aload_n C d_PF_make_31 rfl ?_
          refine kw_getR C fi_PF_65 rfl rfl ht d_PF_make_32 (fun o10 ho10 => ?_)
          refine kw_iload_n C d_PF_make_35 rfl ?_
          refine kw_iload_n C d_PF_make_36 rfl ?_
          refine kw_iload_n C d_PF_make_37 rfl ?_
          refine kw_iload C d_PF_make_38 rfl ?_
          refine kw_iload C d_PF_make_40 rfl ?_
          refine kw_callVv (cl' := 0) (sl' := 0) (As := [.int a0, .int a1, .int a2, .int a3, .int a4]) C (c_Picture_begin hl n ids ho10 a0 a1 a2 a3 a4 σ9) mi_PF_128 v_Picture_begin ⟨_, _, rfl⟩ ho10 ⟨Nat.le_of_ble_eq_true rfl, Nat.le_of_ble_eq_true rfl⟩ (Nat.le_of_ble_eq_true rfl) ⟨Nat.le_of_ble_eq_true rfl, Nat.le_of_ble_eq_true rfl⟩ ⟨rfl, rfl⟩ rfl d_PF_make_42 (fun σ11 => ?_)
          refine kw_iload_n C d_PF_make_45 rfl ?_
          refine kw_iconst (v := 3) C d_PF_make_46 (by decide) ?_
          refine kw_j (α := Unit) (pcj := 60) (Lj := fun x13 => [some (.ref t), none, none, none, none, none]) (stj := fun x13 => []) (fun x13 σ14 => ?_) (fun k12 hk12 => ?_)
          · refine kw_aload_n C d_PF_make_60 rfl ?_
            refine kw_iconst (v := 1) C d_PF_make_61 (by decide) ?_
            refine kw_putZ C fi_PF_72 rfl ht d_PF_make_62 (fun σ15 => ?_)
            exact kw_vret C Ce rfl (by simp) (fun _ _ => rfl) (Nat.le_of_ble_eq_true rfl) (Nat.le_of_ble_eq_true rfl) rfl d_PF_make_65
          · refine kw_icmp_ne (tgt := 60) C d_PF_make_47 (by decide) ?_ ?_
            · exact kw_wk (hk12 () σ11) ⟨Or.inr rfl, Or.inl rfl, Or.inl rfl, Or.inl rfl, Or.inl rfl, Or.inl rfl, trivial⟩
            · refine kw_aload_n C d_PF_make_50 rfl ?_
              refine kw_getR C fi_PF_65 rfl rfl ht d_PF_make_51 (fun o16 ho16 => ?_)
              refine kw_iconst (v := 0) C d_PF_make_54 (by decide) ?_
              refine kw_iconst (v := 0) C d_PF_make_55 (by decide) ?_
              refine kw_iconst (v := 0) C d_PF_make_56 (by decide) ?_
              refine kw_callVv (cl' := 0) (sl' := 0) (As := [.int 0, .int 0, .int 0]) C (c_Picture_addColour hl n ids ho16 0 0 0 σ11) mi_PF_132 v_Picture_addColour ⟨_, _, rfl⟩ ho16 ⟨Nat.le_of_ble_eq_true rfl, Nat.le_of_ble_eq_true rfl⟩ (Nat.le_of_ble_eq_true rfl) ⟨Nat.le_of_ble_eq_true rfl, Nat.le_of_ble_eq_true rfl⟩ ⟨rfl, rfl⟩ rfl d_PF_make_57 (fun σ17 => ?_)
              exact kw_wk (hk12 () σ17) ⟨Or.inr rfl, Or.inl rfl, Or.inl rfl, Or.inl rfl, Or.inl rfl, Or.inl rfl, trivial⟩
        · exact kw_wk (hk3 () σ9) ⟨Or.inl rfl, Or.inl rfl, Or.inl rfl, Or.inl rfl, Or.inl rfl, Or.inl rfl, trivial⟩
/-! PF_wantPicture -/
def rm_PF_wantPicture : Room := { frames := 6, cells := 1, slots := 6, locals := 89 }
def F_PF_wantPicture (n : Nat) (t : Nat) (σ : Mm) : Option ((Unit ⊕ String) × Mm) :=
if (gS σ (64 * t + 8)) = 0 then (
some (.inr "java/lang/IllegalStateException", σ)) else (
some (.inl (), σ))
theorem d_PF_wantPicture_0 : decode prog_1_method_20_code 0 = .ok (.aload_n 0, 1) := by decide +kernel
theorem d_PF_wantPicture_1 : decode prog_1_method_20_code 1 = .ok (.getfield 72, 3) := by decide +kernel
theorem d_PF_wantPicture_4 : decode prog_1_method_20_code 4 = .ok (.ifCond .ne 11, 3) := by decide +kernel
theorem d_PF_wantPicture_7 : decode prog_1_method_20_code 7 = .ok (.new 230, 3) := by decide +kernel
theorem d_PF_wantPicture_10 : decode prog_1_method_20_code 10 = .ok (.dup, 1) := by decide +kernel
theorem d_PF_wantPicture_11 : decode prog_1_method_20_code 11 = .ok (.invokespecial 232, 3) := by decide +kernel
theorem d_PF_wantPicture_14 : decode prog_1_method_20_code 14 = .ok (.athrow, 1) := by decide +kernel
theorem d_PF_wantPicture_15 : decode prog_1_method_20_code 15 = .ok (.return_, 1) := by decide +kernel
set_option maxRecDepth 100000 in
set_option maxHeartbeats 4000000 in
theorem c_PF_wantPicture {l0 : Launch} (hl : l0.stackTraces = false) (n : Nat) (ids : List Nat) {t : Nat} (ht : mm_ok ids t 1 0)  (σ : Mm) : kw_C l0 y_PF_wantPicture (Cond.code y_PF_wantPicture prog_1_method_20_code 1 none :: kw_Ts) rm_PF_wantPicture kw_otv ids [] [.ref t] σ (F_PF_wantPicture n t σ) := by
  refine kw_start (L0 := [some (.ref t)]) hl (by decide +kernel) (Nat.le_of_ble_eq_true rfl) rfl (fun Γ ad C Ce => ?_)
  unfold F_PF_wantPicture
  refine kw_aload_n C d_PF_wantPicture_0 rfl ?_
  refine kw_getI C fi_PF_72 (Or.inr rfl) ht d_PF_wantPicture_1 ?_
  refine kw_if_ne (tgt := 15) C d_PF_wantPicture_4 (by decide) ?_ ?_
  · exact kw_vret C Ce rfl (by simp) (fun _ _ => rfl) (Nat.le_of_ble_eq_true rfl) (Nat.le_of_ble_eq_true rfl) rfl d_PF_wantPicture_15
  · exact kw_throw0 C Ce ti_PF_230_232 (by simp) (fun _ _ => rfl) (Nat.le_of_ble_eq_true rfl) (Nat.le_of_ble_eq_true rfl) (Nat.le_of_ble_eq_true rfl) (Nat.le_of_ble_eq_true rfl) d_PF_wantPicture_7 d_PF_wantPicture_10 d_PF_wantPicture_11 d_PF_wantPicture_14 rfl
/-! PF_about -/
def rm_PF_about : Room := { frames := 7, cells := 2, slots := 12, locals := 109 }
def F_PF_about (n : Nat) (t : Nat) (a0 : Int32) (σ : Mm) : Option ((Int32 ⊕ String) × Mm) :=
kf_t (F_PF_wantPicture n t σ) fun _ σ1 =>
if a0 = 0 then (
Option.bind (gR σ1 (64 * t + 6)) fun o2 =>
some (.inl (gS σ1 (64 * o2 + 0)), σ1)) else (
if a0 = 1 then (
Option.bind (gR σ1 (64 * t + 6)) fun o4 =>
some (.inl (gS σ1 (64 * o4 + 1)), σ1)) else (
if a0 = 2 then (
Option.bind (gR σ1 (64 * t + 6)) fun o6 =>
some (.inl (gS σ1 (64 * o6 + 2)), σ1)) else (
if a0 = 3 then (
Option.bind (gR σ1 (64 * t + 6)) fun o8 =>
some (.inl (gS σ1 (64 * o8 + 3)), σ1)) else (
if a0 = 4 then (
Option.bind (gR σ1 (64 * t + 6)) fun o10 =>
kf_j (α := Int32) (fun x12 σ13 =>
some (.inl x12, σ13)) fun k11 =>
if (gS σ1 (64 * o10 + 4)) = 0 then (
k11 0 σ1) else (
k11 1 σ1)) else (
if a0 = 5 then (
Option.bind (gR σ1 (64 * t + 6)) fun o15 =>
some (.inl (gS σ1 (64 * o15 + 6)), σ1)) else (
if a0 = 6 then (
Option.bind (gR σ1 (64 * t + 6)) fun o17 =>
some (.inl (gS σ1 (64 * o17 + 7)), σ1)) else (
if a0 = 7 then (
Option.bind (gR σ1 (64 * t + 6)) fun o19 =>
Option.bind (gR σ1 (64 * o19 + 11)) fun o20 =>
some (.inl (gS σ1 (64 * o20 + 0)), σ1)) else (
if a0 = 8 then (
Option.bind (gR σ1 (64 * t + 6)) fun o22 =>
Option.bind (gR σ1 (64 * o22 + 11)) fun o23 =>
some (.inl (gS σ1 (64 * o23 + 1)), σ1)) else (
some (.inr "java/lang/IllegalArgumentException", σ1))))))))))
theorem d_PF_about_0 : decode prog_1_method_7_code 0 = .ok (.aload_n 0, 1) := by decide +kernel
theorem d_PF_about_1 : decode prog_1_method_7_code 1 = .ok (.invokevirtual 136, 3) := by decide +kernel
theorem d_PF_about_4 : decode prog_1_method_7_code 4 = .ok (.iload_n 1, 1) := by decide +kernel
theorem d_PF_about_5 : decode prog_1_method_7_code 5 = .ok (.tableswitch 137 0 8 #[51, 59, 67, 75, 83, 99, 107, 115, 126], 51) := by decide +kernel
theorem d_PF_about_56 : decode prog_1_method_7_code 56 = .ok (.aload_n 0, 1) := by decide +kernel
theorem d_PF_about_57 : decode prog_1_method_7_code 57 = .ok (.getfield 65, 3) := by decide +kernel
theorem d_PF_about_60 : decode prog_1_method_7_code 60 = .ok (.getfield 139, 3) := by decide +kernel
theorem d_PF_about_63 : decode prog_1_method_7_code 63 = .ok (.ireturn, 1) := by decide +kernel
theorem d_PF_about_64 : decode prog_1_method_7_code 64 = .ok (.aload_n 0, 1) := by decide +kernel
theorem d_PF_about_65 : decode prog_1_method_7_code 65 = .ok (.getfield 65, 3) := by decide +kernel
theorem d_PF_about_68 : decode prog_1_method_7_code 68 = .ok (.getfield 142, 3) := by decide +kernel
theorem d_PF_about_71 : decode prog_1_method_7_code 71 = .ok (.ireturn, 1) := by decide +kernel
theorem d_PF_about_72 : decode prog_1_method_7_code 72 = .ok (.aload_n 0, 1) := by decide +kernel
theorem d_PF_about_73 : decode prog_1_method_7_code 73 = .ok (.getfield 65, 3) := by decide +kernel
theorem d_PF_about_76 : decode prog_1_method_7_code 76 = .ok (.getfield 145, 3) := by decide +kernel
theorem d_PF_about_79 : decode prog_1_method_7_code 79 = .ok (.ireturn, 1) := by decide +kernel
theorem d_PF_about_80 : decode prog_1_method_7_code 80 = .ok (.aload_n 0, 1) := by decide +kernel
theorem d_PF_about_81 : decode prog_1_method_7_code 81 = .ok (.getfield 65, 3) := by decide +kernel
theorem d_PF_about_84 : decode prog_1_method_7_code 84 = .ok (.getfield 148, 3) := by decide +kernel
theorem d_PF_about_87 : decode prog_1_method_7_code 87 = .ok (.ireturn, 1) := by decide +kernel
theorem d_PF_about_88 : decode prog_1_method_7_code 88 = .ok (.aload_n 0, 1) := by decide +kernel
theorem d_PF_about_89 : decode prog_1_method_7_code 89 = .ok (.getfield 65, 3) := by decide +kernel
theorem d_PF_about_92 : decode prog_1_method_7_code 92 = .ok (.getfield 151, 3) := by decide +kernel
theorem d_PF_about_95 : decode prog_1_method_7_code 95 = .ok (.ifCond .eq 7, 3) := by decide +kernel
theorem d_PF_about_98 : decode prog_1_method_7_code 98 = .ok (.iconst 1, 1) := by decide +kernel
theorem d_PF_about_99 : decode prog_1_method_7_code 99 = .ok (.goto 4, 3) := by decide +kernel
theorem d_PF_about_102 : decode prog_1_method_7_code 102 = .ok (.iconst 0, 1) := by decide +kernel
theorem d_PF_about_103 : decode prog_1_method_7_code 103 = .ok (.ireturn, 1) := by decide +kernel
theorem d_PF_about_104 : decode prog_1_method_7_code 104 = .ok (.aload_n 0, 1) := by decide +kernel
theorem d_PF_about_105 : decode prog_1_method_7_code 105 = .ok (.getfield 65, 3) := by decide +kernel
theorem d_PF_about_108 : decode prog_1_method_7_code 108 = .ok (.getfield 154, 3) := by decide +kernel
theorem d_PF_about_111 : decode prog_1_method_7_code 111 = .ok (.ireturn, 1) := by decide +kernel
theorem d_PF_about_112 : decode prog_1_method_7_code 112 = .ok (.aload_n 0, 1) := by decide +kernel
theorem d_PF_about_113 : decode prog_1_method_7_code 113 = .ok (.getfield 65, 3) := by decide +kernel
theorem d_PF_about_116 : decode prog_1_method_7_code 116 = .ok (.getfield 157, 3) := by decide +kernel
theorem d_PF_about_119 : decode prog_1_method_7_code 119 = .ok (.ireturn, 1) := by decide +kernel
theorem d_PF_about_120 : decode prog_1_method_7_code 120 = .ok (.aload_n 0, 1) := by decide +kernel
theorem d_PF_about_121 : decode prog_1_method_7_code 121 = .ok (.getfield 65, 3) := by decide +kernel
theorem d_PF_about_124 : decode prog_1_method_7_code 124 = .ok (.getfield 98, 3) := by decide +kernel
theorem d_PF_about_127 : decode prog_1_method_7_code 127 = .ok (.getfield 160, 3) := by decide +kernel
theorem d_PF_about_130 : decode prog_1_method_7_code 130 = .ok (.ireturn, 1) := by decide +kernel
theorem d_PF_about_131 : decode prog_1_method_7_code 131 = .ok (.aload_n 0, 1) := by decide +kernel
theorem d_PF_about_132 : decode prog_1_method_7_code 132 = .ok (.getfield 65, 3) := by decide +kernel
theorem d_PF_about_135 : decode prog_1_method_7_code 135 = .ok (.getfield 98, 3) := by decide +kernel
theorem d_PF_about_138 : decode prog_1_method_7_code 138 = .ok (.getfield 102, 3) := by decide +kernel
theorem d_PF_about_141 : decode prog_1_method_7_code 141 = .ok (.ireturn, 1) := by decide +kernel
theorem d_PF_about_142 : decode prog_1_method_7_code 142 = .ok (.new 88, 3) := by decide +kernel
theorem d_PF_about_145 : decode prog_1_method_7_code 145 = .ok (.dup, 1) := by decide +kernel
theorem d_PF_about_146 : decode prog_1_method_7_code 146 = .ok (.invokespecial 90, 3) := by decide +kernel
theorem d_PF_about_149 : decode prog_1_method_7_code 149 = .ok (.athrow, 1) := by decide +kernel
set_option maxRecDepth 100000 in
set_option maxHeartbeats 4000000 in
theorem c_PF_about {l0 : Launch} (hl : l0.stackTraces = false) (n : Nat) (ids : List Nat) {t : Nat} (ht : mm_ok ids t 1 0) (a0 : Int32) (σ : Mm) : kw_C l0 y_PF_about (Cond.code y_PF_about prog_1_method_7_code 2 (some .int) :: kw_Ts) rm_PF_about kw_oti ids [] [.ref t, .int a0] σ (F_PF_about n t a0 σ) := by
  refine kw_start (L0 := [some (.ref t), some (.int a0)]) hl (by decide +kernel) (Nat.le_of_ble_eq_true rfl) rfl (fun Γ ad C Ce => ?_)
  unfold F_PF_about
  refine kw_aload_n C d_PF_about_0 rfl ?_
  refine kw_callVt (As := []) (cl' := 1) (sl' := 6) C Ce (fun _ _ => rfl) (c_PF_wantPicture hl n ids ht  σ) mi_PF_136 v_PF_wantPicture ⟨_, _, rfl⟩ ht ⟨Nat.le_of_ble_eq_true rfl, Nat.le_of_ble_eq_true rfl⟩ (Nat.le_of_ble_eq_true rfl) ⟨Nat.le_of_ble_eq_true rfl, Nat.le_of_ble_eq_true rfl⟩ ⟨rfl, rfl⟩ rfl (by simp) (fun _ _ => rfl) d_PF_about_1 (fun _ σ1 => ?_)
  refine kw_iload_n C d_PF_about_4 rfl ?_
  refine kw_sw ?_ (fun hn3 => ?_)
  · refine kw_tsIn (off := 51) (tgt := 56) C d_PF_about_5 (by decide) (by decide) (by decide) (by decide) ?_
    refine kw_aload_n C d_PF_about_56 rfl ?_
    refine kw_getR C fi_PF_65 rfl rfl ht d_PF_about_57 (fun o2 ho2 => ?_)
    refine kw_getI C fi_PF_139 (Or.inl rfl) ho2 d_PF_about_60 ?_
    exact kw_iret C Ce rfl (by simp) (fun _ _ => rfl) (Nat.le_of_ble_eq_true rfl) (Nat.le_of_ble_eq_true rfl) rfl d_PF_about_63
  refine kw_sw ?_ (fun hn5 => ?_)
  · refine kw_tsIn (off := 59) (tgt := 64) C d_PF_about_5 (by decide) (by decide) (by decide) (by decide) ?_
    refine kw_aload_n C d_PF_about_64 rfl ?_
    refine kw_getR C fi_PF_65 rfl rfl ht d_PF_about_65 (fun o4 ho4 => ?_)
    refine kw_getI C fi_PF_142 (Or.inl rfl) ho4 d_PF_about_68 ?_
    exact kw_iret C Ce rfl (by simp) (fun _ _ => rfl) (Nat.le_of_ble_eq_true rfl) (Nat.le_of_ble_eq_true rfl) rfl d_PF_about_71
  refine kw_sw ?_ (fun hn7 => ?_)
  · refine kw_tsIn (off := 67) (tgt := 72) C d_PF_about_5 (by decide) (by decide) (by decide) (by decide) ?_
    refine kw_aload_n C d_PF_about_72 rfl ?_
    refine kw_getR C fi_PF_65 rfl rfl ht d_PF_about_73 (fun o6 ho6 => ?_)
    refine kw_getI C fi_PF_145 (Or.inl rfl) ho6 d_PF_about_76 ?_
    exact kw_iret C Ce rfl (by simp) (fun _ _ => rfl) (Nat.le_of_ble_eq_true rfl) (Nat.le_of_ble_eq_true rfl) rfl d_PF_about_79
  refine kw_sw ?_ (fun hn9 => ?_)
  · refine kw_tsIn (off := 75) (tgt := 80) C d_PF_about_5 (by decide) (by decide) (by decide) (by decide) ?_
    refine kw_aload_n C d_PF_about_80 rfl ?_
    refine kw_getR C fi_PF_65 rfl rfl ht d_PF_about_81 (fun o8 ho8 => ?_)
    refine kw_getI C fi_PF_148 (Or.inl rfl) ho8 d_PF_about_84 ?_
    exact kw_iret C Ce rfl (by simp) (fun _ _ => rfl) (Nat.le_of_ble_eq_true rfl) (Nat.le_of_ble_eq_true rfl) rfl d_PF_about_87
  refine kw_sw ?_ (fun hn14 => ?_)
  · refine kw_tsIn (off := 83) (tgt := 88) C d_PF_about_5 (by decide) (by decide) (by decide) (by decide) ?_
    refine kw_aload_n C d_PF_about_88 rfl ?_
    refine kw_getR C fi_PF_65 rfl rfl ht d_PF_about_89 (fun o10 ho10 => ?_)
    refine kw_getI C fi_PF_151 (Or.inr rfl) ho10 d_PF_about_92 ?_
    refine kw_j (α := Int32) (pcj := 103) (Lj := fun x12 => [none, none]) (stj := fun x12 => [.int x12]) (fun x12 σ13 => ?_) (fun k11 hk11 => ?_)
    · exact kw_iret C Ce rfl (by simp) (fun _ _ => rfl) (Nat.le_of_ble_eq_true rfl) (Nat.le_of_ble_eq_true rfl) rfl d_PF_about_103
    · refine kw_if_eq (tgt := 102) C d_PF_about_95 (by decide) ?_ ?_
      · refine kw_iconst (v := 0) C d_PF_about_102 (by decide) ?_
        exact kw_wk (hk11 0 σ1) ⟨Or.inl rfl, Or.inl rfl, trivial⟩
      · refine kw_iconst (v := 1) C d_PF_about_98 (by decide) ?_
        refine kw_goto (tgt := 103) C d_PF_about_99 (by decide) ?_
        exact kw_wk (hk11 1 σ1) ⟨Or.inl rfl, Or.inl rfl, trivial⟩
  refine kw_sw ?_ (fun hn16 => ?_)
  · refine kw_tsIn (off := 99) (tgt := 104) C d_PF_about_5 (by decide) (by decide) (by decide) (by decide) ?_
    refine kw_aload_n C d_PF_about_104 rfl ?_
    refine kw_getR C fi_PF_65 rfl rfl ht d_PF_about_105 (fun o15 ho15 => ?_)
    refine kw_getI C fi_PF_154 (Or.inl rfl) ho15 d_PF_about_108 ?_
    exact kw_iret C Ce rfl (by simp) (fun _ _ => rfl) (Nat.le_of_ble_eq_true rfl) (Nat.le_of_ble_eq_true rfl) rfl d_PF_about_111
  refine kw_sw ?_ (fun hn18 => ?_)
  · refine kw_tsIn (off := 107) (tgt := 112) C d_PF_about_5 (by decide) (by decide) (by decide) (by decide) ?_
    refine kw_aload_n C d_PF_about_112 rfl ?_
    refine kw_getR C fi_PF_65 rfl rfl ht d_PF_about_113 (fun o17 ho17 => ?_)
    refine kw_getI C fi_PF_157 (Or.inl rfl) ho17 d_PF_about_116 ?_
    exact kw_iret C Ce rfl (by simp) (fun _ _ => rfl) (Nat.le_of_ble_eq_true rfl) (Nat.le_of_ble_eq_true rfl) rfl d_PF_about_119
  refine kw_sw ?_ (fun hn21 => ?_)
  · refine kw_tsIn (off := 115) (tgt := 120) C d_PF_about_5 (by decide) (by decide) (by decide) (by decide) ?_
    refine kw_aload_n C d_PF_about_120 rfl ?_
    refine kw_getR C fi_PF_65 rfl rfl ht d_PF_about_121 (fun o19 ho19 => ?_)
    refine kw_getR C fi_PF_98 rfl rfl ho19 d_PF_about_124 (fun o20 ho20 => ?_)
    refine kw_getI C fi_PF_160 (Or.inl rfl) ho20 d_PF_about_127 ?_
    exact kw_iret C Ce rfl (by simp) (fun _ _ => rfl) (Nat.le_of_ble_eq_true rfl) (Nat.le_of_ble_eq_true rfl) rfl d_PF_about_130
  refine kw_sw ?_ (fun hn24 => ?_)
  · refine kw_tsIn (off := 126) (tgt := 131) C d_PF_about_5 (by decide) (by decide) (by decide) (by decide) ?_
    refine kw_aload_n C d_PF_about_131 rfl ?_
    refine kw_getR C fi_PF_65 rfl rfl ht d_PF_about_132 (fun o22 ho22 => ?_)
    refine kw_getR C fi_PF_98 rfl rfl ho22 d_PF_about_135 (fun o23 ho23 => ?_)
    refine kw_getI C fi_PF_102 (Or.inl rfl) ho23 d_PF_about_138 ?_
    exact kw_iret C Ce rfl (by simp) (fun _ _ => rfl) (Nat.le_of_ble_eq_true rfl) (Nat.le_of_ble_eq_true rfl) rfl d_PF_about_141
  · refine kw_tsOut (tgt := 142) C d_PF_about_5 (kw_tso (lo := 0) (hi := 8) a0 (fun k h1 h2 => by rcases (show k = 0 ∨ k = 1 ∨ k = 2 ∨ k = 3 ∨ k = 4 ∨ k = 5 ∨ k = 6 ∨ k = 7 ∨ k = 8 by omega) with rfl | rfl | rfl | rfl | rfl | rfl | rfl | rfl | rfl; exact kw_ni hn3 (by decide); exact kw_ni hn5 (by decide); exact kw_ni hn7 (by decide); exact kw_ni hn9 (by decide); exact kw_ni hn14 (by decide); exact kw_ni hn16 (by decide); exact kw_ni hn18 (by decide); exact kw_ni hn21 (by decide); exact kw_ni hn24 (by decide))) (by decide) ?_
    exact kw_throw0 C Ce ti_PF_88_90 (by simp) (fun _ _ => rfl) (Nat.le_of_ble_eq_true rfl) (Nat.le_of_ble_eq_true rfl) (Nat.le_of_ble_eq_true rfl) (Nat.le_of_ble_eq_true rfl) d_PF_about_142 d_PF_about_145 d_PF_about_146 d_PF_about_149 rfl
/-! PF_wantSample -/
def rm_PF_wantSample : Room := { frames := 6, cells := 1, slots := 6, locals := 89 }
def F_PF_wantSample (n : Nat) (t : Nat) (a0 : Int32) (a1 : Int32) (a2 : Int32) (σ : Mm) : Option ((Unit ⊕ String) × Mm) :=
kf_j (α := Unit) (fun x2 σ3 =>
some (.inr "java/lang/IndexOutOfBoundsException", σ3)) fun k1 =>
if a0 < 0 then (
k1 () σ) else (
Option.bind (gR σ (64 * t + 6)) fun o4 =>
if (gS σ (64 * o4 + 0)) ≤ a0 then (
k1 () σ) else (
if a1 < 0 then (
k1 () σ) else (
Option.bind (gR σ (64 * t + 6)) fun o5 =>
if (gS σ (64 * o5 + 1)) ≤ a1 then (
k1 () σ) else (
if a2 < 0 then (
k1 () σ) else (
Option.bind (gR σ (64 * t + 6)) fun o6 =>
if a2 < (gS σ (64 * o6 + 5)) then (
some (.inl (), σ)) else (
k1 () σ))))))
theorem d_PF_wantSample_0 : decode prog_1_method_21_code 0 = .ok (.iload_n 1, 1) := by decide +kernel
theorem d_PF_wantSample_1 : decode prog_1_method_21_code 1 = .ok (.ifCond .lt 44, 3) := by decide +kernel
theorem d_PF_wantSample_4 : decode prog_1_method_21_code 4 = .ok (.iload_n 1, 1) := by decide +kernel
theorem d_PF_wantSample_5 : decode prog_1_method_21_code 5 = .ok (.aload_n 0, 1) := by decide +kernel
theorem d_PF_wantSample_6 : decode prog_1_method_21_code 6 = .ok (.getfield 65, 3) := by decide +kernel
theorem d_PF_wantSample_9 : decode prog_1_method_21_code 9 = .ok (.getfield 139, 3) := by decide +kernel
theorem d_PF_wantSample_12 : decode prog_1_method_21_code 12 = .ok (.if_icmp .ge 33, 3) := by decide +kernel
theorem d_PF_wantSample_15 : decode prog_1_method_21_code 15 = .ok (.iload_n 2, 1) := by decide +kernel
theorem d_PF_wantSample_16 : decode prog_1_method_21_code 16 = .ok (.ifCond .lt 29, 3) := by decide +kernel
theorem d_PF_wantSample_19 : decode prog_1_method_21_code 19 = .ok (.iload_n 2, 1) := by decide +kernel
theorem d_PF_wantSample_20 : decode prog_1_method_21_code 20 = .ok (.aload_n 0, 1) := by decide +kernel
theorem d_PF_wantSample_21 : decode prog_1_method_21_code 21 = .ok (.getfield 65, 3) := by decide +kernel
theorem d_PF_wantSample_24 : decode prog_1_method_21_code 24 = .ok (.getfield 142, 3) := by decide +kernel
theorem d_PF_wantSample_27 : decode prog_1_method_21_code 27 = .ok (.if_icmp .ge 18, 3) := by decide +kernel
theorem d_PF_wantSample_30 : decode prog_1_method_21_code 30 = .ok (.iload_n 3, 1) := by decide +kernel
theorem d_PF_wantSample_31 : decode prog_1_method_21_code 31 = .ok (.ifCond .lt 14, 3) := by decide +kernel
theorem d_PF_wantSample_34 : decode prog_1_method_21_code 34 = .ok (.iload_n 3, 1) := by decide +kernel
theorem d_PF_wantSample_35 : decode prog_1_method_21_code 35 = .ok (.aload_n 0, 1) := by decide +kernel
theorem d_PF_wantSample_36 : decode prog_1_method_21_code 36 = .ok (.getfield 65, 3) := by decide +kernel
theorem d_PF_wantSample_39 : decode prog_1_method_21_code 39 = .ok (.getfield 233, 3) := by decide +kernel
theorem d_PF_wantSample_42 : decode prog_1_method_21_code 42 = .ok (.if_icmp .lt 11, 3) := by decide +kernel
theorem d_PF_wantSample_45 : decode prog_1_method_21_code 45 = .ok (.new 177, 3) := by decide +kernel
theorem d_PF_wantSample_48 : decode prog_1_method_21_code 48 = .ok (.dup, 1) := by decide +kernel
theorem d_PF_wantSample_49 : decode prog_1_method_21_code 49 = .ok (.invokespecial 179, 3) := by decide +kernel
theorem d_PF_wantSample_52 : decode prog_1_method_21_code 52 = .ok (.athrow, 1) := by decide +kernel
theorem d_PF_wantSample_53 : decode prog_1_method_21_code 53 = .ok (.return_, 1) := by decide +kernel
set_option maxRecDepth 100000 in
set_option maxHeartbeats 4000000 in
theorem c_PF_wantSample {l0 : Launch} (hl : l0.stackTraces = false) (n : Nat) (ids : List Nat) {t : Nat} (ht : mm_ok ids t 1 0) (a0 : Int32) (a1 : Int32) (a2 : Int32) (σ : Mm) : kw_C l0 y_PF_wantSample (Cond.code y_PF_wantSample prog_1_method_21_code 4 none :: kw_Ts) rm_PF_wantSample kw_otv ids [] [.ref t, .int a0, .int a1, .int a2] σ (F_PF_wantSample n t a0 a1 a2 σ) := by
  refine kw_start (L0 := [some (.ref t), some (.int a0), some (.int a1), some (.int a2)]) hl (by decide +kernel) (Nat.le_of_ble_eq_true rfl) rfl (fun Γ ad C Ce => ?_)
  unfold F_PF_wantSample
  refine kw_iload_n C d_PF_wantSample_0 rfl ?_
  refine kw_j (α := Unit) (pcj := 45) (Lj := fun x2 => [none, none, none, none]) (stj := fun x2 => []) (fun x2 σ3 => ?_) (fun k1 hk1 => ?_)
  · exact kw_throw0 C Ce ti_PF_177_179 (by simp) (fun _ _ => rfl) (Nat.le_of_ble_eq_true rfl) (Nat.le_of_ble_eq_true rfl) (Nat.le_of_ble_eq_true rfl) (Nat.le_of_ble_eq_true rfl) d_PF_wantSample_45 d_PF_wantSample_48 d_PF_wantSample_49 d_PF_wantSample_52 rfl
  · refine kw_if_lt (tgt := 45) C d_PF_wantSample_1 (by decide) ?_ ?_
    · exact kw_wk (hk1 () σ) ⟨Or.inl rfl, Or.inl rfl, Or.inl rfl, Or.inl rfl, trivial⟩
    · refine kw_iload_n C d_PF_wantSample_4 rfl ?_
      refine kw_aload_n C d_PF_wantSample_5 rfl ?_
      refine kw_getR C fi_PF_65 rfl rfl ht d_PF_wantSample_6 (fun o4 ho4 => ?_)
      refine kw_getI C fi_PF_139 (Or.inl rfl) ho4 d_PF_wantSample_9 ?_
      refine kw_icmp_ge (tgt := 45) C d_PF_wantSample_12 (by decide) ?_ ?_
      · exact kw_wk (hk1 () σ) ⟨Or.inl rfl, Or.inl rfl, Or.inl rfl, Or.inl rfl, trivial⟩
      · refine kw_iload_n C d_PF_wantSample_15 rfl ?_
        refine kw_if_lt (tgt := 45) C d_PF_wantSample_16 (by decide) ?_ ?_
        · exact kw_wk (hk1 () σ) ⟨Or.inl rfl, Or.inl rfl, Or.inl rfl, Or.inl rfl, trivial⟩
        · refine kw_iload_n C d_PF_wantSample_19 rfl ?_
          refine kw_aload_n C d_PF_wantSample_20 rfl ?_
          refine kw_getR C fi_PF_65 rfl rfl ht d_PF_wantSample_21 (fun o5 ho5 => ?_)
          refine kw_getI C fi_PF_142 (Or.inl rfl) ho5 d_PF_wantSample_24 ?_
          refine kw_icmp_ge (tgt := 45) C d_PF_wantSample_27 (by decide) ?_ ?_
          · exact kw_wk (hk1 () σ) ⟨Or.inl rfl, Or.inl rfl, Or.inl rfl, Or.inl rfl, trivial⟩
          · refine kw_iload_n C d_PF_wantSample_30 rfl ?_
            refine kw_if_lt (tgt := 45) C d_PF_wantSample_31 (by decide) ?_ ?_
            · exact kw_wk (hk1 () σ) ⟨Or.inl rfl, Or.inl rfl, Or.inl rfl, Or.inl rfl, trivial⟩
            · refine kw_iload_n C d_PF_wantSample_34 rfl ?_
              refine kw_aload_n C d_PF_wantSample_35 rfl ?_
              refine kw_getR C fi_PF_65 rfl rfl ht d_PF_wantSample_36 (fun o6 ho6 => ?_)
              refine kw_getI C fi_PF_233 (Or.inl rfl) ho6 d_PF_wantSample_39 ?_
              refine kw_icmp_lt (tgt := 53) C d_PF_wantSample_42 (by decide) ?_ ?_
              · exact kw_vret C Ce rfl (by simp) (fun _ _ => rfl) (Nat.le_of_ble_eq_true rfl) (Nat.le_of_ble_eq_true rfl) rfl d_PF_wantSample_53
              · exact kw_wk (hk1 () σ) ⟨Or.inl rfl, Or.inl rfl, Or.inl rfl, Or.inl rfl, trivial⟩
