theorem fi_Rows_25 : kw_fi "PictureFile$Rows" 25 11 7 true := ⟨mmR_11, mmT_11, 10, rfl, rfl, by decide, mmI_11, mmY_11, mmN_11, rfl, (kw_m2 (i := 72) (by decide +kernel) (by decide +kernel))⟩
theorem fi_Rows_73 : kw_fi "PictureFile$Rows" 73 11 2 false := ⟨mmR_11, mmT_11, 10, rfl, rfl, by decide, mmI_11, mmY_11, mmN_11, rfl, (kw_m2 (i := 62) (by decide +kernel) (by decide +kernel))⟩
theorem fi_Rows_76 : kw_fi "PictureFile$Rows" 76 11 9 true := ⟨mmR_11, mmT_11, 10, rfl, rfl, by decide, mmI_11, mmY_11, mmN_11, rfl, (kw_m2 (i := 76) (by decide +kernel) (by decide +kernel))⟩
theorem mi_Rows_79 : kw_mi "PictureFile$Rows" 79 y_Rows_nearest prog_9_method_9_code 6 (some .int) 3 := ⟨(kw_m3 (i := 194) (by decide +kernel) (by decide +kernel)), w_Rows_nearest, in_Rows, by decide +kernel, by decide +kernel, by decide +kernel⟩
theorem s_Rows_nearest : Cond.static y_Rows_nearest ∈ kw_Ts := (kw_m3 (i := 195) (by decide +kernel) (by decide +kernel))
theorem fi_Rows_16 : kw_fi "PictureFile$Rows" 16 3 1 true := ⟨mmR_3, mmT_3, 2, rfl, rfl, by decide, mmI_3, mmY_3, mmN_3, rfl, (kw_m1 (i := 86) (by decide +kernel) (by decide +kernel))⟩
def y_Rows_guess : MethodName := ⟨"PictureFile$Rows", "guess", "(LPictureFile$Layout;III)I"⟩
theorem w_Rows_guess : Cond.code y_Rows_guess prog_9_method_8_code 10 (some .int) ∈ kw_Ts := (kw_m3 (i := 193) (by decide +kernel) (by decide +kernel))
def y_Picture_indexOf : MethodName := ⟨"PictureFile$Picture", "indexOf", "(II)I"⟩
theorem w_Picture_indexOf : Cond.code y_Picture_indexOf prog_7_method_9_code 3 (some .int) ∈ kw_Ts := (kw_m3 (i := 207) (by decide +kernel) (by decide +kernel))
def y_Rows_sampleAt : MethodName := ⟨"PictureFile$Rows", "sampleAt", "(III)I"⟩
theorem w_Rows_sampleAt : Cond.code y_Rows_sampleAt prog_9_method_5_code 5 (some .int) ∈ kw_Ts := (kw_m3 (i := 211) (by decide +kernel) (by decide +kernel))
theorem fi_Rows_19 : kw_fi "PictureFile$Rows" 19 10 11 true := ⟨mmR_10, mmT_10, 12, rfl, rfl, by decide, mmI_10, mmY_10, mmN_10, rfl, (kw_m2 (i := 142) (by decide +kernel) (by decide +kernel))⟩
theorem fi_Rows_31 : kw_fi "PictureFile$Rows" 31 11 6 true := ⟨mmR_11, mmT_11, 10, rfl, rfl, by decide, mmI_11, mmY_11, mmN_11, rfl, (kw_m2 (i := 70) (by decide +kernel) (by decide +kernel))⟩
theorem fi_Rows_34 : kw_fi "PictureFile$Rows" 34 11 3 true := ⟨mmR_11, mmT_11, 10, rfl, rfl, by decide, mmI_11, mmY_11, mmN_11, rfl, (kw_m2 (i := 64) (by decide +kernel) (by decide +kernel))⟩
theorem fi_Rows_37 : kw_fi "PictureFile$Rows" 37 11 5 true := ⟨mmR_11, mmT_11, 10, rfl, rfl, by decide, mmI_11, mmY_11, mmN_11, rfl, (kw_m2 (i := 68) (by decide +kernel) (by decide +kernel))⟩
theorem fi_Rows_40 : kw_fi "PictureFile$Rows" 40 11 4 true := ⟨mmR_11, mmT_11, 10, rfl, rfl, by decide, mmI_11, mmY_11, mmN_11, rfl, (kw_m2 (i := 66) (by decide +kernel) (by decide +kernel))⟩
theorem mi_Rows_43 : kw_mi "PictureFile$Rows" 43 y_Picture_indexOf prog_7_method_9_code 3 (some .int) 2 := ⟨(kw_m3 (i := 204) (by decide +kernel) (by decide +kernel)), w_Picture_indexOf, in_Picture, by decide +kernel, by decide +kernel, by decide +kernel⟩
theorem v_Picture_indexOf : Cond.instanceMethod y_Picture_indexOf ∈ kw_Ts ∧ Cond.selects y_Picture_indexOf.cls y_Picture_indexOf y_Picture_indexOf ∈ kw_Ts := ⟨(kw_m3 (i := 205) (by decide +kernel) (by decide +kernel)), (kw_m3 (i := 206) (by decide +kernel) (by decide +kernel))⟩
theorem fi_Rows_47 : kw_fi "PictureFile$Rows" 47 10 5 false := ⟨mmR_10, mmT_10, 12, rfl, rfl, by decide, mmI_10, mmY_10, mmN_10, rfl, (kw_m2 (i := 120) (by decide +kernel) (by decide +kernel))⟩
theorem fi_Rows_54 : kw_fi "PictureFile$Rows" 54 10 8 true := ⟨mmR_10, mmT_10, 12, rfl, rfl, by decide, mmI_10, mmY_10, mmN_10, rfl, (kw_m2 (i := 133) (by decide +kernel) (by decide +kernel))⟩
theorem fi_Rows_51 : kw_fi "PictureFile$Rows" 51 10 3 false := ⟨mmR_10, mmT_10, 12, rfl, rfl, by decide, mmI_10, mmY_10, mmN_10, rfl, (kw_m2 (i := 112) (by decide +kernel) (by decide +kernel))⟩
theorem mi_Rows_61 : kw_mi "PictureFile$Rows" 61 y_Rows_sampleAt prog_9_method_5_code 5 (some .int) 3 := ⟨(kw_m3 (i := 208) (by decide +kernel) (by decide +kernel)), w_Rows_sampleAt, in_Rows, by decide +kernel, by decide +kernel, by decide +kernel⟩
theorem v_Rows_sampleAt : Cond.instanceMethod y_Rows_sampleAt ∈ kw_Ts ∧ Cond.selects y_Rows_sampleAt.cls y_Rows_sampleAt y_Rows_sampleAt ∈ kw_Ts := ⟨(kw_m3 (i := 210) (by decide +kernel) (by decide +kernel)), (kw_sel (i := 21) (by decide +kernel) (by decide +kernel))⟩
def y_Rows_scatter : MethodName := ⟨"PictureFile$Rows", "scatter", "(LPictureFile$Picture;I)V"⟩
theorem w_Rows_scatter : Cond.code y_Rows_scatter prog_9_method_4_code 9 none ∈ kw_Ts := (kw_m3 (i := 203) (by decide +kernel) (by decide +kernel))
theorem fi_Rows_116 : kw_fi "PictureFile$Rows" 116 10 0 false := ⟨mmR_10, mmT_10, 12, rfl, rfl, by decide, mmI_10, mmY_10, mmN_10, rfl, (kw_m2 (i := 102) (by decide +kernel) (by decide +kernel))⟩
theorem fi_Rows_119 : kw_fi "PictureFile$Rows" 119 10 1 false := ⟨mmR_10, mmT_10, 12, rfl, rfl, by decide, mmI_10, mmY_10, mmN_10, rfl, (kw_m2 (i := 106) (by decide +kernel) (by decide +kernel))⟩
theorem fi_Rows_122 : kw_fi "PictureFile$Rows" 122 10 6 false := ⟨mmR_10, mmT_10, 12, rfl, rfl, by decide, mmI_10, mmY_10, mmN_10, rfl, (kw_m2 (i := 128) (by decide +kernel) (by decide +kernel))⟩
theorem mi_Rows_100 : kw_mi "PictureFile$Rows" 100 y_Fault_refuse prog_3_method_3_code 3 (some .boolean) 2 := ⟨(kw_m3 (i := 189) (by decide +kernel) (by decide +kernel)), w_Fault_refuse, in_Fault, by decide +kernel, by decide +kernel, by decide +kernel⟩
def y_Rows_allColoursThere : MethodName := ⟨"PictureFile$Rows", "allColoursThere", "(LPictureFile$Picture;LPictureFile$Fault;)Z"⟩
theorem w_Rows_allColoursThere : Cond.code y_Rows_allColoursThere prog_9_method_13_code 3 (some .boolean) ∈ kw_Ts := (kw_m3 (i := 214) (by decide +kernel) (by decide +kernel))
theorem fi_Rows_88 : kw_fi "PictureFile$Rows" 88 11 0 false := ⟨mmR_11, mmT_11, 10, rfl, rfl, by decide, mmI_11, mmY_11, mmN_11, rfl, (kw_m2 (i := 57) (by decide +kernel) (by decide +kernel))⟩
theorem fi_Rows_109 : kw_fi "PictureFile$Rows" 109 10 2 false := ⟨mmR_10, mmT_10, 12, rfl, rfl, by decide, mmI_10, mmY_10, mmN_10, rfl, (kw_m2 (i := 111) (by decide +kernel) (by decide +kernel))⟩
theorem mi_Rows_112 : kw_mi "PictureFile$Rows" 112 y_Rows_allColoursThere prog_9_method_13_code 3 (some .boolean) 2 := ⟨(kw_m3 (i := 212) (by decide +kernel) (by decide +kernel)), w_Rows_allColoursThere, in_Rows, by decide +kernel, by decide +kernel, by decide +kernel⟩
theorem s_Rows_allColoursThere : Cond.static y_Rows_allColoursThere ∈ kw_Ts := (kw_m3 (i := 213) (by decide +kernel) (by decide +kernel))
theorem fi_Rows_28 : kw_fi "PictureFile$Rows" 28 11 8 true := ⟨mmR_11, mmT_11, 10, rfl, rfl, by decide, mmI_11, mmY_11, mmN_11, rfl, (kw_m2 (i := 74) (by decide +kernel) (by decide +kernel))⟩
theorem mi_Rows_106 : kw_mi "PictureFile$Rows" 106 y_Rows_scatter prog_9_method_4_code 9 none 2 := ⟨(kw_m3 (i := 200) (by decide +kernel) (by decide +kernel)), w_Rows_scatter, in_Rows, by decide +kernel, by decide +kernel, by decide +kernel⟩
theorem v_Rows_scatter : Cond.instanceMethod y_Rows_scatter ∈ kw_Ts ∧ Cond.selects y_Rows_scatter.cls y_Rows_scatter y_Rows_scatter ∈ kw_Ts := ⟨(kw_m3 (i := 202) (by decide +kernel) (by decide +kernel)), (kw_sel (i := 20) (by decide +kernel) (by decide +kernel))⟩
theorem mi_Rows_69 : kw_mi "PictureFile$Rows" 69 y_Rows_guess prog_9_method_8_code 10 (some .int) 4 := ⟨(kw_m3 (i := 190) (by decide +kernel) (by decide +kernel)), w_Rows_guess, in_Rows, by decide +kernel, by decide +kernel, by decide +kernel⟩
theorem v_Rows_guess : Cond.instanceMethod y_Rows_guess ∈ kw_Ts ∧ Cond.selects y_Rows_guess.cls y_Rows_guess y_Rows_guess ∈ kw_Ts := ⟨(kw_m3 (i := 192) (by decide +kernel) (by decide +kernel)), (kw_sel (i := 19) (by decide +kernel) (by decide +kernel))⟩
def y_Rows_restore : MethodName := ⟨"PictureFile$Rows", "restore", "(LPictureFile$Picture;LPictureFile$Fault;)Z"⟩
theorem w_Rows_restore : Cond.code y_Rows_restore prog_9_method_12_code 8 (some .boolean) ∈ kw_Ts := (kw_m3 (i := 188) (by decide +kernel) (by decide +kernel))
theorem fi_PF_19 : kw_fi "PictureFile" 19 0 1 true := ⟨mmR_0, mmT_0, 9, rfl, rfl, by decide, mmI_0, mmY_0, mmN_0, rfl, (kw_m2 (i := 171) (by decide +kernel) (by decide +kernel))⟩
theorem mi_PF_91 : kw_mi "PictureFile" 91 y_Fault_clear prog_3_method_2_code 1 none 0 := ⟨(kw_m2 (i := 202) (by decide +kernel) (by decide +kernel)), w_Fault_clear, in_Fault, by decide +kernel, by decide +kernel, by decide +kernel⟩
theorem v_Fault_clear : Cond.instanceMethod y_Fault_clear ∈ kw_Ts ∧ Cond.selects y_Fault_clear.cls y_Fault_clear y_Fault_clear ∈ kw_Ts := ⟨(kw_m2 (i := 203) (by decide +kernel) (by decide +kernel)), (kw_m2 (i := 204) (by decide +kernel) (by decide +kernel))⟩
theorem fi_PF_40 : kw_fi "PictureFile" 40 0 2 true := ⟨mmR_0, mmT_0, 9, rfl, rfl, by decide, mmI_0, mmY_0, mmN_0, rfl, (kw_m2 (i := 172) (by decide +kernel) (by decide +kernel))⟩
theorem fi_PF_69 : kw_fi "PictureFile" 69 0 7 false := ⟨mmR_0, mmT_0, 9, rfl, rfl, by decide, mmI_0, mmY_0, mmN_0, rfl, (kw_m2 (i := 177) (by decide +kernel) (by decide +kernel))⟩
theorem mi_PF_94 : kw_mi "PictureFile" 94 y_Pieces_walk prog_8_method_2_code 4 (some .boolean) 1 := ⟨(kw_m2 (i := 206) (by decide +kernel) (by decide +kernel)), w_Pieces_walk, in_Pieces, by decide +kernel, by decide +kernel, by decide +kernel⟩
theorem v_Pieces_walk : Cond.instanceMethod y_Pieces_walk ∈ kw_Ts ∧ Cond.selects y_Pieces_walk.cls y_Pieces_walk y_Pieces_walk ∈ kw_Ts := ⟨(kw_m2 (i := 207) (by decide +kernel) (by decide +kernel)), (kw_m2 (i := 208) (by decide +kernel) (by decide +kernel))⟩
theorem fi_PF_65 : kw_fi "PictureFile" 65 0 6 false := ⟨mmR_0, mmT_0, 9, rfl, rfl, by decide, mmI_0, mmY_0, mmN_0, rfl, (kw_m2 (i := 176) (by decide +kernel) (by decide +kernel))⟩
theorem fi_PF_72 : kw_fi "PictureFile" 72 0 8 false := ⟨mmR_0, mmT_0, 9, rfl, rfl, by decide, mmI_0, mmY_0, mmN_0, rfl, (kw_m2 (i := 178) (by decide +kernel) (by decide +kernel))⟩
theorem fi_PF_115 : kw_fi "PictureFile" 115 2 1 false := ⟨mmR_2, mmT_2, 2, rfl, rfl, by decide, mmI_2, mmY_2, mmN_2, rfl, (kw_m1 (i := 69) (by decide +kernel) (by decide +kernel))⟩
theorem fi_PF_49 : kw_fi "PictureFile" 49 0 3 true := ⟨mmR_0, mmT_0, 9, rfl, rfl, by decide, mmI_0, mmY_0, mmN_0, rfl, (kw_m2 (i := 173) (by decide +kernel) (by decide +kernel))⟩
theorem fi_PF_98 : kw_fi "PictureFile" 98 10 11 true := ⟨mmR_10, mmT_10, 12, rfl, rfl, by decide, mmI_10, mmY_10, mmN_10, rfl, (kw_m2 (i := 144) (by decide +kernel) (by decide +kernel))⟩
theorem fi_PF_102 : kw_fi "PictureFile" 102 11 1 false := ⟨mmR_11, mmT_11, 10, rfl, rfl, by decide, mmI_11, mmY_11, mmN_11, rfl, (kw_m2 (i := 60) (by decide +kernel) (by decide +kernel))⟩
theorem mi_PF_107 : kw_mi "PictureFile" 107 y_Unpacker_unpack prog_11_method_2_code 4 (some .boolean) 1 := ⟨(kw_m3 (i := 90) (by decide +kernel) (by decide +kernel)), w_Unpacker_unpack, in_Unpacker, by decide +kernel, by decide +kernel, by decide +kernel⟩
theorem v_Unpacker_unpack : Cond.instanceMethod y_Unpacker_unpack ∈ kw_Ts ∧ Cond.selects y_Unpacker_unpack.cls y_Unpacker_unpack y_Unpacker_unpack ∈ kw_Ts := ⟨(kw_m3 (i := 91) (by decide +kernel) (by decide +kernel)), (kw_m3 (i := 92) (by decide +kernel) (by decide +kernel))⟩
theorem fi_PF_26 : kw_fi "PictureFile" 26 0 4 true := ⟨mmR_0, mmT_0, 9, rfl, rfl, by decide, mmI_0, mmY_0, mmN_0, rfl, (kw_m2 (i := 174) (by decide +kernel) (by decide +kernel))⟩
theorem mi_PF_111 : kw_mi "PictureFile" 111 y_Rows_restore prog_9_method_12_code 8 (some .boolean) 2 := ⟨(kw_m3 (i := 185) (by decide +kernel) (by decide +kernel)), w_Rows_restore, in_Rows, by decide +kernel, by decide +kernel, by decide +kernel⟩
theorem v_Rows_restore : Cond.instanceMethod y_Rows_restore ∈ kw_Ts ∧ Cond.selects y_Rows_restore.cls y_Rows_restore y_Rows_restore ∈ kw_Ts := ⟨(kw_m3 (i := 186) (by decide +kernel) (by decide +kernel)), (kw_m3 (i := 187) (by decide +kernel) (by decide +kernel))⟩
def y_PF_read : MethodName := ⟨"PictureFile", "read", "()I"⟩
theorem w_PF_read : Cond.code y_PF_read prog_1_method_4_code 3 (some .int) ∈ kw_Ts := (kw_m2 (i := 201) (by decide +kernel) (by decide +kernel))
theorem fi_PF_118 : kw_fi "PictureFile" 118 2 0 false := ⟨mmR_2, mmT_2, 2, rfl, rfl, by decide, mmI_2, mmY_2, mmN_2, rfl, (kw_m1 (i := 66) (by decide +kernel) (by decide +kernel))⟩
def y_PF_fault : MethodName := ⟨"PictureFile", "fault", "()I"⟩
theorem w_PF_fault : Cond.code y_PF_fault prog_1_method_5_code 1 (some .int) ∈ kw_Ts := (kw_m3 (i := 218) (by decide +kernel) (by decide +kernel))
def y_Picture_isNumber : MethodName := ⟨"PictureFile$Picture", "isNumber", "(I)Z"⟩
theorem w_Picture_isNumber : Cond.code y_Picture_isNumber prog_7_method_13_code 2 (some .boolean) ∈ kw_Ts := (kw_m4 (i := 171) (by decide +kernel) (by decide +kernel))
theorem mi_Picture_64 : kw_mi "PictureFile$Picture" 64 y_Picture_isNumber prog_7_method_13_code 2 (some .boolean) 1 := ⟨(kw_m4 (i := 168) (by decide +kernel) (by decide +kernel)), w_Picture_isNumber, in_Picture, by decide +kernel, by decide +kernel, by decide +kernel⟩
theorem v_Picture_isNumber : Cond.instanceMethod y_Picture_isNumber ∈ kw_Ts ∧ Cond.selects y_Picture_isNumber.cls y_Picture_isNumber y_Picture_isNumber ∈ kw_Ts := ⟨(kw_m4 (i := 170) (by decide +kernel) (by decide +kernel)), (kw_sel (i := 26) (by decide +kernel) (by decide +kernel))⟩
def y_Picture_letsValue : MethodName := ⟨"PictureFile$Picture", "letsValue", "(I)Z"⟩
theorem w_Picture_letsValue : Cond.code y_Picture_letsValue prog_7_method_11_code 2 (some .boolean) ∈ kw_Ts := (kw_m4 (i := 167) (by decide +kernel) (by decide +kernel))
def y_Picture_letsThin : MethodName := ⟨"PictureFile$Picture", "letsThin", "(III)Z"⟩
theorem w_Picture_letsThin : Cond.code y_Picture_letsThin prog_7_method_12_code 4 (some .boolean) ∈ kw_Ts := (kw_m4 (i := 205) (by decide +kernel) (by decide +kernel))
def y_Rows_putSample : MethodName := ⟨"PictureFile$Rows", "putSample", "(IIII)V"⟩
theorem w_Rows_putSample : Cond.code y_Rows_putSample prog_9_method_3_code 6 none ∈ kw_Ts := (kw_m4 (i := 228) (by decide +kernel) (by decide +kernel))
theorem mi_Rows_57 : kw_mi "PictureFile$Rows" 57 y_Rows_putSample prog_9_method_3_code 6 none 4 := ⟨(kw_m4 (i := 225) (by decide +kernel) (by decide +kernel)), w_Rows_putSample, in_Rows, by decide +kernel, by decide +kernel, by decide +kernel⟩
theorem v_Rows_putSample : Cond.instanceMethod y_Rows_putSample ∈ kw_Ts ∧ Cond.selects y_Rows_putSample.cls y_Rows_putSample y_Rows_putSample ∈ kw_Ts := ⟨(kw_m4 (i := 227) (by decide +kernel) (by decide +kernel)), (kw_sel (i := 27) (by decide +kernel) (by decide +kernel))⟩
def y_Rows_gather : MethodName := ⟨"PictureFile$Rows", "gather", "(LPictureFile$Picture;I)V"⟩
theorem w_Rows_gather : Cond.code y_Rows_gather prog_9_method_2_code 9 none ∈ kw_Ts := (kw_m4 (i := 224) (by decide +kernel) (by decide +kernel))
def y_Rows_cost : MethodName := ⟨"PictureFile$Rows", "cost", "(LPictureFile$Layout;II)I"⟩
theorem w_Rows_cost : Cond.code y_Rows_cost prog_9_method_7_code 8 (some .int) ∈ kw_Ts := (kw_m4 (i := 236) (by decide +kernel) (by decide +kernel))
/-! Rows_guess -/
def rm_Rows_guess : Room := { frames := 2, cells := 0, slots := 0, locals := 46 }
def F_Rows_guess (n : Nat) (t : Nat) (r0 : Nat) (a1 : Int32) (a2 : Int32) (a3 : Int32) (σ : Mm) : Option (Int32 × Mm) :=
Option.bind (gR σ (64 * r0 + 7)) fun o1 =>
kf_in a1 (mm_kd o1).2.2 <|
kf_let (((gB σ o1 a1.toNatClampNeg) + 1) + a2 : Int32) fun x2 =>
kf_let (gS σ (64 * r0 + 2) : Int32) fun x3 =>
Option.bind (gR σ (64 * r0 + 9)) fun o4 =>
kf_in a1 (mm_kd o4).2.2 <|
kf_let (gB σ o4 a1.toNatClampNeg : Int32) fun x5 =>
kf_j (α := Int32) (fun x7 σ8 =>
kf_j (α := Int32) (fun x10 σ11 =>
if a3 = 1 then (
some (x7, σ11)) else (
if a3 = 2 then (
some (x10, σ11)) else (
if a3 = 3 then (
kf_nz 2 <|
some ((x7 + x10) / 2, σ11)) else (
if a3 = 4 then (
kf_j (α := Int32 × Int32 × Int32) (fun x16 σ17 =>
kf_c2 (F_Rows_nearest n x16.1 x16.2.1 x16.2.2 σ17) fun x18 σ19 =>
some (x18, σ19)) fun k15 =>
kf_j (α := Int32 × Int32) (fun x21 σ22 =>
k15 (x21.1, x21.2, 0) σ22) fun k20 =>
if a2 < x3 then (
k20 (x7, x10) σ11) else (
if x5 ≤ 0 then (
k20 (x7, x10) σ11) else (
Option.bind (gR σ11 (64 * t + 1)) fun o23 =>
kf_let ((x2 - x5) - x3 : Int32) fun x24 =>
kf_in x24 (mm_kd o23).2.2 <|
k15 (x7, x10, gB σ11 o23 x24.toNatClampNeg) σ11))) else (
some (0, σ11)))))) fun k9 =>
if x5 ≤ 0 then (
k9 0 σ8) else (
Option.bind (gR σ8 (64 * t + 1)) fun o26 =>
kf_let (x2 - x5 : Int32) fun x27 =>
kf_in x27 (mm_kd o26).2.2 <|
k9 (gB σ8 o26 x27.toNatClampNeg) σ8)) fun k6 =>
if a2 < x3 then (
k6 0 σ) else (
Option.bind (gR σ (64 * t + 1)) fun o28 =>
kf_let (x2 - x3 : Int32) fun x29 =>
kf_in x29 (mm_kd o28).2.2 <|
k6 (gB σ o28 x29.toNatClampNeg) σ)
theorem d_Rows_guess_0 : decode prog_9_method_8_code 0 = .ok (.aload_n 1, 1) := by decide +kernel
theorem d_Rows_guess_1 : decode prog_9_method_8_code 1 = .ok (.getfield 25, 3) := by decide +kernel
theorem d_Rows_guess_4 : decode prog_9_method_8_code 4 = .ok (.iload_n 2, 1) := by decide +kernel
theorem d_Rows_guess_5 : decode prog_9_method_8_code 5 = .ok (.iaload, 1) := by decide +kernel
theorem d_Rows_guess_6 : decode prog_9_method_8_code 6 = .ok (.iconst 1, 1) := by decide +kernel
theorem d_Rows_guess_7 : decode prog_9_method_8_code 7 = .ok (.iadd, 1) := by decide +kernel
theorem d_Rows_guess_8 : decode prog_9_method_8_code 8 = .ok (.iload_n 3, 1) := by decide +kernel
theorem d_Rows_guess_9 : decode prog_9_method_8_code 9 = .ok (.iadd, 1) := by decide +kernel
theorem d_Rows_guess_10 : decode prog_9_method_8_code 10 = .ok (.istore 5, 2) := by decide +kernel
theorem d_Rows_guess_12 : decode prog_9_method_8_code 12 = .ok (.aload_n 1, 1) := by decide +kernel
theorem d_Rows_guess_13 : decode prog_9_method_8_code 13 = .ok (.getfield 73, 3) := by decide +kernel
theorem d_Rows_guess_16 : decode prog_9_method_8_code 16 = .ok (.istore 6, 2) := by decide +kernel
theorem d_Rows_guess_18 : decode prog_9_method_8_code 18 = .ok (.aload_n 1, 1) := by decide +kernel
theorem d_Rows_guess_19 : decode prog_9_method_8_code 19 = .ok (.getfield 76, 3) := by decide +kernel
theorem d_Rows_guess_22 : decode prog_9_method_8_code 22 = .ok (.iload_n 2, 1) := by decide +kernel
theorem d_Rows_guess_23 : decode prog_9_method_8_code 23 = .ok (.iaload, 1) := by decide +kernel
theorem d_Rows_guess_24 : decode prog_9_method_8_code 24 = .ok (.istore 7, 2) := by decide +kernel
theorem d_Rows_guess_26 : decode prog_9_method_8_code 26 = .ok (.iload_n 3, 1) := by decide +kernel
theorem d_Rows_guess_27 : decode prog_9_method_8_code 27 = .ok (.iload 6, 2) := by decide +kernel
theorem d_Rows_guess_29 : decode prog_9_method_8_code 29 = .ok (.if_icmp .lt 16, 3) := by decide +kernel
theorem d_Rows_guess_32 : decode prog_9_method_8_code 32 = .ok (.aload_n 0, 1) := by decide +kernel
theorem d_Rows_guess_33 : decode prog_9_method_8_code 33 = .ok (.getfield 16, 3) := by decide +kernel
theorem d_Rows_guess_36 : decode prog_9_method_8_code 36 = .ok (.iload 5, 2) := by decide +kernel
theorem d_Rows_guess_38 : decode prog_9_method_8_code 38 = .ok (.iload 6, 2) := by decide +kernel
theorem d_Rows_guess_40 : decode prog_9_method_8_code 40 = .ok (.isub, 1) := by decide +kernel
theorem d_Rows_guess_41 : decode prog_9_method_8_code 41 = .ok (.iaload, 1) := by decide +kernel
theorem d_Rows_guess_42 : decode prog_9_method_8_code 42 = .ok (.goto 4, 3) := by decide +kernel
theorem d_Rows_guess_45 : decode prog_9_method_8_code 45 = .ok (.iconst 0, 1) := by decide +kernel
theorem d_Rows_guess_46 : decode prog_9_method_8_code 46 = .ok (.istore 8, 2) := by decide +kernel
theorem d_Rows_guess_48 : decode prog_9_method_8_code 48 = .ok (.iload 7, 2) := by decide +kernel
theorem d_Rows_guess_50 : decode prog_9_method_8_code 50 = .ok (.ifCond .le 16, 3) := by decide +kernel
theorem d_Rows_guess_53 : decode prog_9_method_8_code 53 = .ok (.aload_n 0, 1) := by decide +kernel
theorem d_Rows_guess_54 : decode prog_9_method_8_code 54 = .ok (.getfield 16, 3) := by decide +kernel
theorem d_Rows_guess_57 : decode prog_9_method_8_code 57 = .ok (.iload 5, 2) := by decide +kernel
theorem d_Rows_guess_59 : decode prog_9_method_8_code 59 = .ok (.iload 7, 2) := by decide +kernel
theorem d_Rows_guess_61 : decode prog_9_method_8_code 61 = .ok (.isub, 1) := by decide +kernel
theorem d_Rows_guess_62 : decode prog_9_method_8_code 62 = .ok (.iaload, 1) := by decide +kernel
theorem d_Rows_guess_63 : decode prog_9_method_8_code 63 = .ok (.goto 4, 3) := by decide +kernel
theorem d_Rows_guess_66 : decode prog_9_method_8_code 66 = .ok (.iconst 0, 1) := by decide +kernel
theorem d_Rows_guess_67 : decode prog_9_method_8_code 67 = .ok (.istore 9, 2) := by decide +kernel
theorem d_Rows_guess_69 : decode prog_9_method_8_code 69 = .ok (.iload 4, 2) := by decide +kernel
theorem d_Rows_guess_71 : decode prog_9_method_8_code 71 = .ok (.tableswitch 79 1 4 #[29, 32, 35, 43], 29) := by decide +kernel
theorem d_Rows_guess_100 : decode prog_9_method_8_code 100 = .ok (.iload 8, 2) := by decide +kernel
theorem d_Rows_guess_102 : decode prog_9_method_8_code 102 = .ok (.ireturn, 1) := by decide +kernel
theorem d_Rows_guess_103 : decode prog_9_method_8_code 103 = .ok (.iload 9, 2) := by decide +kernel
theorem d_Rows_guess_105 : decode prog_9_method_8_code 105 = .ok (.ireturn, 1) := by decide +kernel
theorem d_Rows_guess_106 : decode prog_9_method_8_code 106 = .ok (.iload 8, 2) := by decide +kernel
theorem d_Rows_guess_108 : decode prog_9_method_8_code 108 = .ok (.iload 9, 2) := by decide +kernel
theorem d_Rows_guess_110 : decode prog_9_method_8_code 110 = .ok (.iadd, 1) := by decide +kernel
theorem d_Rows_guess_111 : decode prog_9_method_8_code 111 = .ok (.iconst 2, 1) := by decide +kernel
theorem d_Rows_guess_112 : decode prog_9_method_8_code 112 = .ok (.idiv, 1) := by decide +kernel
theorem d_Rows_guess_113 : decode prog_9_method_8_code 113 = .ok (.ireturn, 1) := by decide +kernel
theorem d_Rows_guess_114 : decode prog_9_method_8_code 114 = .ok (.iload 8, 2) := by decide +kernel
theorem d_Rows_guess_116 : decode prog_9_method_8_code 116 = .ok (.iload 9, 2) := by decide +kernel
theorem d_Rows_guess_118 : decode prog_9_method_8_code 118 = .ok (.iload_n 3, 1) := by decide +kernel
theorem d_Rows_guess_119 : decode prog_9_method_8_code 119 = .ok (.iload 6, 2) := by decide +kernel
theorem d_Rows_guess_121 : decode prog_9_method_8_code 121 = .ok (.if_icmp .lt 24, 3) := by decide +kernel
theorem d_Rows_guess_124 : decode prog_9_method_8_code 124 = .ok (.iload 7, 2) := by decide +kernel
theorem d_Rows_guess_126 : decode prog_9_method_8_code 126 = .ok (.ifCond .le 19, 3) := by decide +kernel
theorem d_Rows_guess_129 : decode prog_9_method_8_code 129 = .ok (.aload_n 0, 1) := by decide +kernel
theorem d_Rows_guess_130 : decode prog_9_method_8_code 130 = .ok (.getfield 16, 3) := by decide +kernel
theorem d_Rows_guess_133 : decode prog_9_method_8_code 133 = .ok (.iload 5, 2) := by decide +kernel
theorem d_Rows_guess_135 : decode prog_9_method_8_code 135 = .ok (.iload 7, 2) := by decide +kernel
theorem d_Rows_guess_137 : decode prog_9_method_8_code 137 = .ok (.isub, 1) := by decide +kernel
theorem d_Rows_guess_138 : decode prog_9_method_8_code 138 = .ok (.iload 6, 2) := by decide +kernel
theorem d_Rows_guess_140 : decode prog_9_method_8_code 140 = .ok (.isub, 1) := by decide +kernel
theorem d_Rows_guess_141 : decode prog_9_method_8_code 141 = .ok (.iaload, 1) := by decide +kernel
theorem d_Rows_guess_142 : decode prog_9_method_8_code 142 = .ok (.goto 4, 3) := by decide +kernel
theorem d_Rows_guess_145 : decode prog_9_method_8_code 145 = .ok (.iconst 0, 1) := by decide +kernel
theorem d_Rows_guess_146 : decode prog_9_method_8_code 146 = .ok (.invokestatic 79, 3) := by decide +kernel
theorem d_Rows_guess_149 : decode prog_9_method_8_code 149 = .ok (.ireturn, 1) := by decide +kernel
theorem d_Rows_guess_150 : decode prog_9_method_8_code 150 = .ok (.iconst 0, 1) := by decide +kernel
theorem d_Rows_guess_151 : decode prog_9_method_8_code 151 = .ok (.ireturn, 1) := by decide +kernel
set_option maxRecDepth 100000 in
set_option maxHeartbeats 4000000 in
theorem c_Rows_guess {l0 : Launch} (hl : l0.stackTraces = false) (n : Nat) (ids : List Nat) {t : Nat} (ht : mm_ok ids t 1 3) {r0 : Nat} (hr0 : mm_ok ids r0 1 11) (a1 : Int32) (a2 : Int32) (a3 : Int32) (σ : Mm) : kw_C l0 y_Rows_guess (Cond.code y_Rows_guess prog_9_method_8_code 10 (some .int) :: kw_Ts) rm_Rows_guess kw_oi ids [] [.ref t, .ref r0, .int a1, .int a2, .int a3] σ (F_Rows_guess n t r0 a1 a2 a3 σ) := by
  refine kw_start (L0 := [some (.ref t), some (.ref r0), some (.int a1), some (.int a2), some (.int a3), none, none, none, none, none]) hl (by decide +kernel) (Nat.le_of_ble_eq_true rfl) rfl (fun Γ ad C Ce => ?_)
  unfold F_Rows_guess
  refine kw_aload_n C d_Rows_guess_0 rfl ?_
  refine kw_getR C fi_Rows_25 rfl rfl hr0 d_Rows_guess_1 (fun o1 ho1 => ?_)
  refine kw_iload_n C d_Rows_guess_4 rfl ?_
  refine kw_iald C (Or.inl ⟨ho1.1, ho1.2.1⟩) d_Rows_guess_5 ?_
  refine kw_iconst (v := 1) C d_Rows_guess_6 (by decide) ?_
  refine kw_iadd C d_Rows_guess_7 ?_
  refine kw_iload_n C d_Rows_guess_8 rfl ?_
  refine kw_iadd C d_Rows_guess_9 ?_
  refine kw_leti (fun x2 => ?_)
  refine kw_istore (L' := [some (.ref t), some (.ref r0), some (.int a1), some (.int a2), some (.int a3), some (.int x2), none, none, none, none]) C d_Rows_guess_10 (by decide) rfl ?_
  refine kw_aload_n C d_Rows_guess_12 rfl ?_
  refine kw_getI C fi_Rows_73 (Or.inl rfl) hr0 d_Rows_guess_13 ?_
  refine kw_leti (fun x3 => ?_)
  refine kw_istore (L' := [some (.ref t), some (.ref r0), some (.int a1), some (.int a2), some (.int a3), some (.int x2), some (.int x3), none, none, none]) C d_Rows_guess_16 (by decide) rfl ?_
  refine kw_aload_n C d_Rows_guess_18 rfl ?_
  refine kw_getR C fi_Rows_76 rfl rfl hr0 d_Rows_guess_19 (fun o4 ho4 => ?_)
  refine kw_iload_n C d_Rows_guess_22 rfl ?_
  refine kw_iald C (Or.inl ⟨ho4.1, ho4.2.1⟩) d_Rows_guess_23 ?_
  refine kw_leti (fun x5 => ?_)
  refine kw_istore (L' := [some (.ref t), some (.ref r0), some (.int a1), some (.int a2), some (.int a3), some (.int x2), some (.int x3), some (.int x5), none, none]) C d_Rows_guess_24 (by decide) rfl ?_
  refine kw_iload_n C d_Rows_guess_26 rfl ?_
  refine kw_iload C d_Rows_guess_27 rfl ?_
  refine kw_j (α := Int32) (pcj := 46) (Lj := fun x7 => [some (.ref t), none, none, some (.int a2), some (.int a3), some (.int x2), some (.int x3), some (.int x5), none, none]) (stj := fun x7 => [.int x7]) (fun x7 σ8 => ?_) (fun k6 hk6 => ?_)
  · refine kw_istore (L' := [some (.ref t), none, none, some (.int a2), some (.int a3), some (.int x2), some (.int x3), some (.int x5), some (.int x7), none]) C d_Rows_guess_46 (by decide) rfl ?_
    refine kw_iload C d_Rows_guess_48 rfl ?_
    refine kw_j (α := Int32) (pcj := 67) (Lj := fun x10 => [some (.ref t), none, none, some (.int a2), some (.int a3), some (.int x2), some (.int x3), some (.int x5), some (.int x7), none]) (stj := fun x10 => [.int x10]) (fun x10 σ11 => ?_) (fun k9 hk9 => ?_)
    · refine kw_istore (L' := [some (.ref t), none, none, some (.int a2), some (.int a3), some (.int x2), some (.int x3), some (.int x5), some (.int x7), some (.int x10)]) C d_Rows_guess_67 (by decide) rfl ?_
      refine kw_iload C d_Rows_guess_69 rfl ?_
      refine kw_sw ?_ (fun hn12 => ?_)
      · refine kw_tsIn (off := 29) (tgt := 100) C d_Rows_guess_71 (by decide) (by decide) (by decide) (by decide) ?_
        refine kw_iload C d_Rows_guess_100 rfl ?_
        exact kw_iret C Ce rfl (by simp) (fun _ _ => rfl) (Nat.le_of_ble_eq_true rfl) (Nat.le_of_ble_eq_true rfl) rfl d_Rows_guess_102
      refine kw_sw ?_ (fun hn13 => ?_)
      · refine kw_tsIn (off := 32) (tgt := 103) C d_Rows_guess_71 (by decide) (by decide) (by decide) (by decide) ?_
        refine kw_iload C d_Rows_guess_103 rfl ?_
        exact kw_iret C Ce rfl (by simp) (fun _ _ => rfl) (Nat.le_of_ble_eq_true rfl) (Nat.le_of_ble_eq_true rfl) rfl d_Rows_guess_105
      refine kw_sw ?_ (fun hn14 => ?_)
      · refine kw_tsIn (off := 35) (tgt := 106) C d_Rows_guess_71 (by decide) (by decide) (by decide) (by decide) ?_
        refine kw_iload C d_Rows_guess_106 rfl ?_
        refine kw_iload C d_Rows_guess_108 rfl ?_
        refine kw_iadd C d_Rows_guess_110 ?_
        refine kw_iconst (v := 2) C d_Rows_guess_111 (by decide) ?_
        refine kw_idiv C d_Rows_guess_112 ?_
        exact kw_iret C Ce rfl (by simp) (fun _ _ => rfl) (Nat.le_of_ble_eq_true rfl) (Nat.le_of_ble_eq_true rfl) rfl d_Rows_guess_113
      refine kw_sw ?_ (fun hn25 => ?_)
      · refine kw_tsIn (off := 43) (tgt := 114) C d_Rows_guess_71 (by decide) (by decide) (by decide) (by decide) ?_
        refine kw_iload C d_Rows_guess_114 rfl ?_
        refine kw_iload C d_Rows_guess_116 rfl ?_
        refine kw_iload_n C d_Rows_guess_118 rfl ?_
        refine kw_iload C d_Rows_guess_119 rfl ?_
        refine kw_j (α := Int32 × Int32 × Int32) (pcj := 146) (Lj := fun x16 => [none, none, none, none, none, none, none, none, none, none]) (stj := fun x16 => [.int x16.2.2, .int x16.2.1, .int x16.1]) (fun x16 σ17 => ?_) (fun k15 hk15 => ?_)
        · refine kw_callSi (cl' := 0) (sl' := 0) (As := [.int x16.1, .int x16.2.1, .int x16.2.2]) C (c_Rows_nearest hl n ids  x16.1 x16.2.1 x16.2.2 σ17) mi_Rows_79 s_Rows_nearest ⟨Nat.le_of_ble_eq_true rfl, Nat.le_of_ble_eq_true rfl⟩ (Nat.le_of_ble_eq_true rfl) ⟨Nat.le_of_ble_eq_true rfl, Nat.le_of_ble_eq_true rfl⟩ ⟨rfl, rfl⟩ rfl d_Rows_guess_146 (fun x18 σ19 => ?_)
          exact kw_iret C Ce rfl (by simp) (fun _ _ => rfl) (Nat.le_of_ble_eq_true rfl) (Nat.le_of_ble_eq_true rfl) rfl d_Rows_guess_149
        · refine kw_j (α := Int32 × Int32) (pcj := 145) (Lj := fun x21 => [none, none, none, none, none, none, none, none, none, none]) (stj := fun x21 => [.int x21.2, .int x21.1]) (fun x21 σ22 => ?_) (fun k20 hk20 => ?_)
          · refine kw_iconst (v := 0) C d_Rows_guess_145 (by decide) ?_
            exact kw_wk (hk15 (x21.1, x21.2, 0) σ22) ⟨Or.inl rfl, Or.inl rfl, Or.inl rfl, Or.inl rfl, Or.inl rfl, Or.inl rfl, Or.inl rfl, Or.inl rfl, Or.inl rfl, Or.inl rfl, trivial⟩
          · refine kw_icmp_lt (tgt := 145) C d_Rows_guess_121 (by decide) ?_ ?_
            · exact kw_wk (hk20 (x7, x10) σ11) ⟨Or.inl rfl, Or.inl rfl, Or.inl rfl, Or.inl rfl, Or.inl rfl, Or.inl rfl, Or.inl rfl, Or.inl rfl, Or.inl rfl, Or.inl rfl, trivial⟩
            · refine kw_iload C d_Rows_guess_124 rfl ?_
              refine kw_if_le (tgt := 145) C d_Rows_guess_126 (by decide) ?_ ?_
              · exact kw_wk (hk20 (x7, x10) σ11) ⟨Or.inl rfl, Or.inl rfl, Or.inl rfl, Or.inl rfl, Or.inl rfl, Or.inl rfl, Or.inl rfl, Or.inl rfl, Or.inl rfl, Or.inl rfl, trivial⟩
              · refine kw_aload_n C d_Rows_guess_129 rfl ?_
                refine kw_getR C fi_Rows_16 rfl rfl ht d_Rows_guess_130 (fun o23 ho23 => ?_)
                refine kw_iload C d_Rows_guess_133 rfl ?_
                refine kw_iload C d_Rows_guess_135 rfl ?_
                refine kw_isub C d_Rows_guess_137 ?_
                refine kw_iload C d_Rows_guess_138 rfl ?_
                refine kw_isub C d_Rows_guess_140 ?_
                refine kw_leti (fun x24 => ?_)
                refine kw_iald C (Or.inl ⟨ho23.1, ho23.2.1⟩) d_Rows_guess_141 ?_
                refine kw_goto (tgt := 146) C d_Rows_guess_142 (by decide) ?_
                exact kw_wk (hk15 (x7, x10, gB σ11 o23 x24.toNatClampNeg) σ11) ⟨Or.inl rfl, Or.inl rfl, Or.inl rfl, Or.inl rfl, Or.inl rfl, Or.inl rfl, Or.inl rfl, Or.inl rfl, Or.inl rfl, Or.inl rfl, trivial⟩
      · refine kw_tsOut (tgt := 150) C d_Rows_guess_71 (kw_tso (lo := 1) (hi := 4) a3 (fun k h1 h2 => by rcases (show k = 1 ∨ k = 2 ∨ k = 3 ∨ k = 4 by omega) with rfl | rfl | rfl | rfl; exact kw_ni hn12 (by decide); exact kw_ni hn13 (by decide); exact kw_ni hn14 (by decide); exact kw_ni hn25 (by decide))) (by decide) ?_
        refine kw_iconst (v := 0) C d_Rows_guess_150 (by decide) ?_
        exact kw_iret C Ce rfl (by simp) (fun _ _ => rfl) (Nat.le_of_ble_eq_true rfl) (Nat.le_of_ble_eq_true rfl) rfl d_Rows_guess_151
    · refine kw_if_le (tgt := 66) C d_Rows_guess_50 (by decide) ?_ ?_
      · refine kw_iconst (v := 0) C d_Rows_guess_66 (by decide) ?_
        exact kw_wk (hk9 0 σ8) ⟨Or.inr rfl, Or.inl rfl, Or.inl rfl, Or.inr rfl, Or.inr rfl, Or.inr rfl, Or.inr rfl, Or.inr rfl, Or.inr rfl, Or.inl rfl, trivial⟩
      · refine kw_aload_n C d_Rows_guess_53 rfl ?_
        refine kw_getR C fi_Rows_16 rfl rfl ht d_Rows_guess_54 (fun o26 ho26 => ?_)
        refine kw_iload C d_Rows_guess_57 rfl ?_
        refine kw_iload C d_Rows_guess_59 rfl ?_
        refine kw_isub C d_Rows_guess_61 ?_
        refine kw_leti (fun x27 => ?_)
        refine kw_iald C (Or.inl ⟨ho26.1, ho26.2.1⟩) d_Rows_guess_62 ?_
        refine kw_goto (tgt := 67) C d_Rows_guess_63 (by decide) ?_
        exact kw_wk (hk9 (gB σ8 o26 x27.toNatClampNeg) σ8) ⟨Or.inr rfl, Or.inl rfl, Or.inl rfl, Or.inr rfl, Or.inr rfl, Or.inr rfl, Or.inr rfl, Or.inr rfl, Or.inr rfl, Or.inl rfl, trivial⟩
  · refine kw_icmp_lt (tgt := 45) C d_Rows_guess_29 (by decide) ?_ ?_
    · refine kw_iconst (v := 0) C d_Rows_guess_45 (by decide) ?_
      exact kw_wk (hk6 0 σ) ⟨Or.inr rfl, Or.inl rfl, Or.inl rfl, Or.inr rfl, Or.inr rfl, Or.inr rfl, Or.inr rfl, Or.inr rfl, Or.inl rfl, Or.inl rfl, trivial⟩
    · refine kw_aload_n C d_Rows_guess_32 rfl ?_
      refine kw_getR C fi_Rows_16 rfl rfl ht d_Rows_guess_33 (fun o28 ho28 => ?_)
      refine kw_iload C d_Rows_guess_36 rfl ?_
      refine kw_iload C d_Rows_guess_38 rfl ?_
      refine kw_isub C d_Rows_guess_40 ?_
      refine kw_leti (fun x29 => ?_)
      refine kw_iald C (Or.inl ⟨ho28.1, ho28.2.1⟩) d_Rows_guess_41 ?_
      refine kw_goto (tgt := 46) C d_Rows_guess_42 (by decide) ?_
      exact kw_wk (hk6 (gB σ o28 x29.toNatClampNeg) σ) ⟨Or.inr rfl, Or.inl rfl, Or.inl rfl, Or.inr rfl, Or.inr rfl, Or.inr rfl, Or.inr rfl, Or.inr rfl, Or.inl rfl, Or.inl rfl, trivial⟩
/-! Picture_indexOf -/
def rm_Picture_indexOf : Room := { frames := 0, cells := 0, slots := 0, locals := 0 }
def F_Picture_indexOf (n : Nat) (t : Nat) (a0 : Int32) (a1 : Int32) (σ : Mm) : Option (Int32 × Mm) :=
some (((a1 * (gS σ (64 * t + 0))) + a0) * (gS σ (64 * t + 5)), σ)
theorem d_Picture_indexOf_0 : decode prog_7_method_9_code 0 = .ok (.iload_n 2, 1) := by decide +kernel
theorem d_Picture_indexOf_1 : decode prog_7_method_9_code 1 = .ok (.aload_n 0, 1) := by decide +kernel
theorem d_Picture_indexOf_2 : decode prog_7_method_9_code 2 = .ok (.getfield 30, 3) := by decide +kernel
theorem d_Picture_indexOf_5 : decode prog_7_method_9_code 5 = .ok (.imul, 1) := by decide +kernel
theorem d_Picture_indexOf_6 : decode prog_7_method_9_code 6 = .ok (.iload_n 1, 1) := by decide +kernel
theorem d_Picture_indexOf_7 : decode prog_7_method_9_code 7 = .ok (.iadd, 1) := by decide +kernel
theorem d_Picture_indexOf_8 : decode prog_7_method_9_code 8 = .ok (.aload_n 0, 1) := by decide +kernel
theorem d_Picture_indexOf_9 : decode prog_7_method_9_code 9 = .ok (.getfield 51, 3) := by decide +kernel
theorem d_Picture_indexOf_12 : decode prog_7_method_9_code 12 = .ok (.imul, 1) := by decide +kernel
theorem d_Picture_indexOf_13 : decode prog_7_method_9_code 13 = .ok (.ireturn, 1) := by decide +kernel
set_option maxRecDepth 100000 in
set_option maxHeartbeats 4000000 in
theorem c_Picture_indexOf {l0 : Launch} (hl : l0.stackTraces = false) (n : Nat) (ids : List Nat) {t : Nat} (ht : mm_ok ids t 1 10) (a0 : Int32) (a1 : Int32) (σ : Mm) : kw_C l0 y_Picture_indexOf (Cond.code y_Picture_indexOf prog_7_method_9_code 3 (some .int) :: kw_Ts) rm_Picture_indexOf kw_oi ids [] [.ref t, .int a0, .int a1] σ (F_Picture_indexOf n t a0 a1 σ) := by
  refine kw_start (L0 := [some (.ref t), some (.int a0), some (.int a1)]) hl (by decide +kernel) (Nat.le_of_ble_eq_true rfl) rfl (fun Γ ad C Ce => ?_)
  unfold F_Picture_indexOf
  refine kw_iload_n C d_Picture_indexOf_0 rfl ?_
  refine kw_aload_n C d_Picture_indexOf_1 rfl ?_
  refine kw_getI C fi_Picture_30 (Or.inl rfl) ht d_Picture_indexOf_2 ?_
  refine kw_imul C d_Picture_indexOf_5 ?_
  refine kw_iload_n C d_Picture_indexOf_6 rfl ?_
  refine kw_iadd C d_Picture_indexOf_7 ?_
  refine kw_aload_n C d_Picture_indexOf_8 rfl ?_
  refine kw_getI C fi_Picture_51 (Or.inl rfl) ht d_Picture_indexOf_9 ?_
  refine kw_imul C d_Picture_indexOf_12 ?_
  exact kw_iret C Ce rfl (by simp) (fun _ _ => rfl) (Nat.le_of_ble_eq_true rfl) (Nat.le_of_ble_eq_true rfl) rfl d_Picture_indexOf_13
/-! Rows_sampleAt -/
def rm_Rows_sampleAt : Room := { frames := 0, cells := 0, slots := 0, locals := 0 }
def F_Rows_sampleAt (n : Nat) (t : Nat) (a0 : Int32) (a1 : Int32) (a2 : Int32) (σ : Mm) : Option (Int32 × Mm) :=
if a2 = 16 then (
Option.bind (gR σ (64 * t + 1)) fun o4 =>
kf_let (a0 + (2 * a1) : Int32) fun x5 =>
kf_in x5 (mm_kd o4).2.2 <|
Option.bind (gR σ (64 * t + 1)) fun o6 =>
kf_let ((a0 + (2 * a1)) + 1 : Int32) fun x7 =>
kf_in x7 (mm_kd o6).2.2 <|
some (((gB σ o4 x5.toNatClampNeg) <<< (8 &&& 31)) ||| (gB σ o6 x7.toNatClampNeg), σ)) else (
kf_let (a1 * a2 : Int32) fun x1 =>
Option.bind (gR σ (64 * t + 1)) fun o2 =>
kf_nz 8 <|
kf_let (a0 + (x1 / 8) : Int32) fun x3 =>
kf_in x3 (mm_kd o2).2.2 <|
kf_nz 8 <|
some (((gB σ o2 x3.toNatClampNeg) >>> (((8 - a2) - (x1 - x1 / 8 * 8)) &&& 31)) &&& ((1 <<< (a2 &&& 31)) - 1), σ))
theorem d_Rows_sampleAt_0 : decode prog_9_method_5_code 0 = .ok (.iload_n 3, 1) := by decide +kernel
theorem d_Rows_sampleAt_1 : decode prog_9_method_5_code 1 = .ok (.bipush 16, 2) := by decide +kernel
theorem d_Rows_sampleAt_3 : decode prog_9_method_5_code 3 = .ok (.if_icmp .ne 30, 3) := by decide +kernel
theorem d_Rows_sampleAt_6 : decode prog_9_method_5_code 6 = .ok (.aload_n 0, 1) := by decide +kernel
theorem d_Rows_sampleAt_7 : decode prog_9_method_5_code 7 = .ok (.getfield 16, 3) := by decide +kernel
theorem d_Rows_sampleAt_10 : decode prog_9_method_5_code 10 = .ok (.iload_n 1, 1) := by decide +kernel
theorem d_Rows_sampleAt_11 : decode prog_9_method_5_code 11 = .ok (.iconst 2, 1) := by decide +kernel
theorem d_Rows_sampleAt_12 : decode prog_9_method_5_code 12 = .ok (.iload_n 2, 1) := by decide +kernel
theorem d_Rows_sampleAt_13 : decode prog_9_method_5_code 13 = .ok (.imul, 1) := by decide +kernel
theorem d_Rows_sampleAt_14 : decode prog_9_method_5_code 14 = .ok (.iadd, 1) := by decide +kernel
theorem d_Rows_sampleAt_15 : decode prog_9_method_5_code 15 = .ok (.iaload, 1) := by decide +kernel
theorem d_Rows_sampleAt_16 : decode prog_9_method_5_code 16 = .ok (.bipush 8, 2) := by decide +kernel
theorem d_Rows_sampleAt_18 : decode prog_9_method_5_code 18 = .ok (.ishl, 1) := by decide +kernel
theorem d_Rows_sampleAt_19 : decode prog_9_method_5_code 19 = .ok (.aload_n 0, 1) := by decide +kernel
theorem d_Rows_sampleAt_20 : decode prog_9_method_5_code 20 = .ok (.getfield 16, 3) := by decide +kernel
theorem d_Rows_sampleAt_23 : decode prog_9_method_5_code 23 = .ok (.iload_n 1, 1) := by decide +kernel
theorem d_Rows_sampleAt_24 : decode prog_9_method_5_code 24 = .ok (.iconst 2, 1) := by decide +kernel
theorem d_Rows_sampleAt_25 : decode prog_9_method_5_code 25 = .ok (.iload_n 2, 1) := by decide +kernel
theorem d_Rows_sampleAt_26 : decode prog_9_method_5_code 26 = .ok (.imul, 1) := by decide +kernel
theorem d_Rows_sampleAt_27 : decode prog_9_method_5_code 27 = .ok (.iadd, 1) := by decide +kernel
theorem d_Rows_sampleAt_28 : decode prog_9_method_5_code 28 = .ok (.iconst 1, 1) := by decide +kernel
theorem d_Rows_sampleAt_29 : decode prog_9_method_5_code 29 = .ok (.iadd, 1) := by decide +kernel
theorem d_Rows_sampleAt_30 : decode prog_9_method_5_code 30 = .ok (.iaload, 1) := by decide +kernel
theorem d_Rows_sampleAt_31 : decode prog_9_method_5_code 31 = .ok (.ior, 1) := by decide +kernel
theorem d_Rows_sampleAt_32 : decode prog_9_method_5_code 32 = .ok (.ireturn, 1) := by decide +kernel
theorem d_Rows_sampleAt_33 : decode prog_9_method_5_code 33 = .ok (.iload_n 2, 1) := by decide +kernel
theorem d_Rows_sampleAt_34 : decode prog_9_method_5_code 34 = .ok (.iload_n 3, 1) := by decide +kernel
theorem d_Rows_sampleAt_35 : decode prog_9_method_5_code 35 = .ok (.imul, 1) := by decide +kernel
theorem d_Rows_sampleAt_36 : decode prog_9_method_5_code 36 = .ok (.istore 4, 2) := by decide +kernel
theorem d_Rows_sampleAt_38 : decode prog_9_method_5_code 38 = .ok (.aload_n 0, 1) := by decide +kernel
theorem d_Rows_sampleAt_39 : decode prog_9_method_5_code 39 = .ok (.getfield 16, 3) := by decide +kernel
theorem d_Rows_sampleAt_42 : decode prog_9_method_5_code 42 = .ok (.iload_n 1, 1) := by decide +kernel
theorem d_Rows_sampleAt_43 : decode prog_9_method_5_code 43 = .ok (.iload 4, 2) := by decide +kernel
theorem d_Rows_sampleAt_45 : decode prog_9_method_5_code 45 = .ok (.bipush 8, 2) := by decide +kernel
theorem d_Rows_sampleAt_47 : decode prog_9_method_5_code 47 = .ok (.idiv, 1) := by decide +kernel
theorem d_Rows_sampleAt_48 : decode prog_9_method_5_code 48 = .ok (.iadd, 1) := by decide +kernel
theorem d_Rows_sampleAt_49 : decode prog_9_method_5_code 49 = .ok (.iaload, 1) := by decide +kernel
theorem d_Rows_sampleAt_50 : decode prog_9_method_5_code 50 = .ok (.bipush 8, 2) := by decide +kernel
theorem d_Rows_sampleAt_52 : decode prog_9_method_5_code 52 = .ok (.iload_n 3, 1) := by decide +kernel
theorem d_Rows_sampleAt_53 : decode prog_9_method_5_code 53 = .ok (.isub, 1) := by decide +kernel
theorem d_Rows_sampleAt_54 : decode prog_9_method_5_code 54 = .ok (.iload 4, 2) := by decide +kernel
theorem d_Rows_sampleAt_56 : decode prog_9_method_5_code 56 = .ok (.bipush 8, 2) := by decide +kernel
theorem d_Rows_sampleAt_58 : decode prog_9_method_5_code 58 = .ok (.irem, 1) := by decide +kernel
theorem d_Rows_sampleAt_59 : decode prog_9_method_5_code 59 = .ok (.isub, 1) := by decide +kernel
theorem d_Rows_sampleAt_60 : decode prog_9_method_5_code 60 = .ok (.ishr, 1) := by decide +kernel
theorem d_Rows_sampleAt_61 : decode prog_9_method_5_code 61 = .ok (.iconst 1, 1) := by decide +kernel
theorem d_Rows_sampleAt_62 : decode prog_9_method_5_code 62 = .ok (.iload_n 3, 1) := by decide +kernel
theorem d_Rows_sampleAt_63 : decode prog_9_method_5_code 63 = .ok (.ishl, 1) := by decide +kernel
theorem d_Rows_sampleAt_64 : decode prog_9_method_5_code 64 = .ok (.iconst 1, 1) := by decide +kernel
theorem d_Rows_sampleAt_65 : decode prog_9_method_5_code 65 = .ok (.isub, 1) := by decide +kernel
theorem d_Rows_sampleAt_66 : decode prog_9_method_5_code 66 = .ok (.iand, 1) := by decide +kernel
theorem d_Rows_sampleAt_67 : decode prog_9_method_5_code 67 = .ok (.ireturn, 1) := by decide +kernel
set_option maxRecDepth 100000 in
set_option maxHeartbeats 4000000 in
theorem c_Rows_sampleAt {l0 : Launch} (hl : l0.stackTraces = false) (n : Nat) (ids : List Nat) {t : Nat} (ht : mm_ok ids t 1 3) (a0 : Int32) (a1 : Int32) (a2 : Int32) (σ : Mm) : kw_C l0 y_Rows_sampleAt (Cond.code y_Rows_sampleAt prog_9_method_5_code 5 (some .int) :: kw_Ts) rm_Rows_sampleAt kw_oi ids [] [.ref t, .int a0, .int a1, .int a2] σ (F_Rows_sampleAt n t a0 a1 a2 σ) := by
  refine kw_start (L0 := [some (.ref t), some (.int a0), some (.int a1), some (.int a2), none]) hl (by decide +kernel) (Nat.le_of_ble_eq_true rfl) rfl (fun Γ ad C Ce => ?_)
  unfold F_Rows_sampleAt
  refine kw_iload_n C d_Rows_sampleAt_0 rfl ?_
  refine kw_bipush (v := 16) C d_Rows_sampleAt_1 (by decide) ?_
  refine kw_icmp_ne (tgt := 33) C d_Rows_sampleAt_3 (by decide) ?_ ?_
  · refine kw_iload_n C d_Rows_sampleAt_33 rfl ?_
    refine kw_iload_n C d_Rows_sampleAt_34 rfl ?_
    refine kw_imul C d_Rows_sampleAt_35 ?_
    refine kw_leti (fun x1 => ?_)
    refine kw_istore (L' := [some (.ref t), some (.int a0), some (.int a1), some (.int a2), some (.int x1)]) C d_Rows_sampleAt_36 (by decide) rfl ?_
    refine kw_aload_n C d_Rows_sampleAt_38 rfl ?_
    refine kw_getR C fi_Rows_16 rfl rfl ht d_Rows_sampleAt_39 (fun o2 ho2 => ?_)
    refine kw_iload_n C d_Rows_sampleAt_42 rfl ?_
    refine kw_iload C d_Rows_sampleAt_43 rfl ?_
    refine kw_bipush (v := 8) C d_Rows_sampleAt_45 (by decide) ?_
    refine kw_idiv C d_Rows_sampleAt_47 ?_
    refine kw_iadd C d_Rows_sampleAt_48 ?_
    refine kw_leti (fun x3 => ?_)
    refine kw_iald C (Or.inl ⟨ho2.1, ho2.2.1⟩) d_Rows_sampleAt_49 ?_
    refine kw_bipush (v := 8) C d_Rows_sampleAt_50 (by decide) ?_
    refine kw_iload_n C d_Rows_sampleAt_52 rfl ?_
    refine kw_isub C d_Rows_sampleAt_53 ?_
    refine kw_iload C d_Rows_sampleAt_54 rfl ?_
    refine kw_bipush (v := 8) C d_Rows_sampleAt_56 (by decide) ?_
    refine kw_irem C d_Rows_sampleAt_58 ?_
    refine kw_isub C d_Rows_sampleAt_59 ?_
    refine kw_ishr C d_Rows_sampleAt_60 ?_
    refine kw_iconst (v := 1) C d_Rows_sampleAt_61 (by decide) ?_
    refine kw_iload_n C d_Rows_sampleAt_62 rfl ?_
    refine kw_ishl C d_Rows_sampleAt_63 ?_
    refine kw_iconst (v := 1) C d_Rows_sampleAt_64 (by decide) ?_
    refine kw_isub C d_Rows_sampleAt_65 ?_
    refine kw_iand C d_Rows_sampleAt_66 ?_
    exact kw_iret C Ce rfl (by simp) (fun _ _ => rfl) (Nat.le_of_ble_eq_true rfl) (Nat.le_of_ble_eq_true rfl) rfl d_Rows_sampleAt_67
  · refine kw_aload_n C d_Rows_sampleAt_6 rfl ?_
    refine kw_getR C fi_Rows_16 rfl rfl ht d_Rows_sampleAt_7 (fun o4 ho4 => ?_)
    refine kw_iload_n C d_Rows_sampleAt_10 rfl ?_
    refine kw_iconst (v := 2) C d_Rows_sampleAt_11 (by decide) ?_
    refine kw_iload_n C d_Rows_sampleAt_12 rfl ?_
    refine kw_imul C d_Rows_sampleAt_13 ?_
    refine kw_iadd C d_Rows_sampleAt_14 ?_
    refine kw_leti (fun x5 => ?_)
    refine kw_iald C (Or.inl ⟨ho4.1, ho4.2.1⟩) d_Rows_sampleAt_15 ?_
    refine kw_bipush (v := 8) C d_Rows_sampleAt_16 (by decide) ?_
    refine kw_ishl C d_Rows_sampleAt_18 ?_
    refine kw_aload_n C d_Rows_sampleAt_19 rfl ?_
    refine kw_getR C fi_Rows_16 rfl rfl ht d_Rows_sampleAt_20 (fun o6 ho6 => ?_)
    refine kw_iload_n C d_Rows_sampleAt_23 rfl ?_
    refine kw_iconst (v := 2) C d_Rows_sampleAt_24 (by decide) ?_
    refine kw_iload_n C d_Rows_sampleAt_25 rfl ?_
    refine kw_imul C d_Rows_sampleAt_26 ?_
    refine kw_iadd C d_Rows_sampleAt_27 ?_
    refine kw_iconst (v := 1) C d_Rows_sampleAt_28 (by decide) ?_
    refine kw_iadd C d_Rows_sampleAt_29 ?_
    refine kw_leti (fun x7 => ?_)
    refine kw_iald C (Or.inl ⟨ho6.1, ho6.2.1⟩) d_Rows_sampleAt_30 ?_
    refine kw_ior C d_Rows_sampleAt_31 ?_
    exact kw_iret C Ce rfl (by simp) (fun _ _ => rfl) (Nat.le_of_ble_eq_true rfl) (Nat.le_of_ble_eq_true rfl) rfl d_Rows_sampleAt_32
/-! Rows_scatter -/
def rm_Rows_scatter : Room := { frames := 1, cells := 0, slots := 0, locals := 24 }
def F_Rows_scatter (n : Nat) (t : Nat) (r0 : Nat) (a1 : Int32) (σ : Mm) : Option (Mm) :=
Option.bind (gR σ (64 * r0 + 11)) fun o1 =>
Option.bind (gR σ (64 * o1 + 7)) fun o2 =>
kf_in a1 (mm_kd o2).2.2 <|
kf_let ((gB σ o2 a1.toNatClampNeg) + 1 : Int32) fun x3 =>
kf_l (α := Int32 × Int32) n (fun k4 x5 σ6 =>
Option.bind (gR σ6 (64 * o1 + 6)) fun o7 =>
kf_in a1 (mm_kd o7).2.2 <|
if (gB σ6 o7 a1.toNatClampNeg) ≤ x5.2 then (
some σ6) else (
Option.bind (gR σ6 (64 * o1 + 3)) fun o8 =>
kf_in a1 (mm_kd o8).2.2 <|
Option.bind (gR σ6 (64 * o1 + 5)) fun o9 =>
kf_in a1 (mm_kd o9).2.2 <|
Option.bind (gR σ6 (64 * o1 + 4)) fun o10 =>
kf_in a1 (mm_kd o10).2.2 <|
kf_c2 (F_Picture_indexOf n r0 ((gB σ6 o8 a1.toNatClampNeg) + (x5.2 * (gB σ6 o9 a1.toNatClampNeg))) (gB σ6 o10 a1.toNatClampNeg) σ6) fun x11 σ12 =>
kf_l (α := Int32 × Int32) n (fun k13 x14 σ15 =>
if (gS σ15 (64 * r0 + 5)) ≤ x14.2 then (
kf_let (x5.2 + Int32.ofInt 1) fun x16 =>
k4 (x14.1, x16) σ15) else (
Option.bind (gR σ15 (64 * r0 + 8)) fun o17 =>
kf_c2 (F_Rows_sampleAt n t x3 x14.1 (gS σ15 (64 * r0 + 3)) σ15) fun x18 σ19 =>
kf_in (x11 + x14.2) (mm_kd o17).2.2 <| kf_let (pB σ19 o17 (x11 + x14.2).toNatClampNeg x18) fun σ20 =>
kf_let (x14.1 + Int32.ofInt 1) fun x21 =>
kf_let (x14.2 + Int32.ofInt 1) fun x22 =>
k13 (x21, x22) σ20)) (x5.1, 0) σ12)) (0, 0) σ
theorem d_Rows_scatter_0 : decode prog_9_method_4_code 0 = .ok (.aload_n 1, 1) := by decide +kernel
theorem d_Rows_scatter_1 : decode prog_9_method_4_code 1 = .ok (.getfield 19, 3) := by decide +kernel
theorem d_Rows_scatter_4 : decode prog_9_method_4_code 4 = .ok (.astore_n 3, 1) := by decide +kernel
theorem d_Rows_scatter_5 : decode prog_9_method_4_code 5 = .ok (.aload_n 3, 1) := by decide +kernel
theorem d_Rows_scatter_6 : decode prog_9_method_4_code 6 = .ok (.getfield 25, 3) := by decide +kernel
theorem d_Rows_scatter_9 : decode prog_9_method_4_code 9 = .ok (.iload_n 2, 1) := by decide +kernel
theorem d_Rows_scatter_10 : decode prog_9_method_4_code 10 = .ok (.iaload, 1) := by decide +kernel
theorem d_Rows_scatter_11 : decode prog_9_method_4_code 11 = .ok (.iconst 1, 1) := by decide +kernel
theorem d_Rows_scatter_12 : decode prog_9_method_4_code 12 = .ok (.iadd, 1) := by decide +kernel
theorem d_Rows_scatter_13 : decode prog_9_method_4_code 13 = .ok (.istore 4, 2) := by decide +kernel
theorem d_Rows_scatter_15 : decode prog_9_method_4_code 15 = .ok (.iconst 0, 1) := by decide +kernel
theorem d_Rows_scatter_16 : decode prog_9_method_4_code 16 = .ok (.istore 5, 2) := by decide +kernel
theorem d_Rows_scatter_18 : decode prog_9_method_4_code 18 = .ok (.iconst 0, 1) := by decide +kernel
theorem d_Rows_scatter_19 : decode prog_9_method_4_code 19 = .ok (.istore 6, 2) := by decide +kernel
theorem d_Rows_scatter_21 : decode prog_9_method_4_code 21 = .ok (.iload 6, 2) := by decide +kernel
theorem d_Rows_scatter_23 : decode prog_9_method_4_code 23 = .ok (.aload_n 3, 1) := by decide +kernel
theorem d_Rows_scatter_24 : decode prog_9_method_4_code 24 = .ok (.getfield 31, 3) := by decide +kernel
theorem d_Rows_scatter_27 : decode prog_9_method_4_code 27 = .ok (.iload_n 2, 1) := by decide +kernel
theorem d_Rows_scatter_28 : decode prog_9_method_4_code 28 = .ok (.iaload, 1) := by decide +kernel
theorem d_Rows_scatter_29 : decode prog_9_method_4_code 29 = .ok (.if_icmp .ge 80, 3) := by decide +kernel
theorem d_Rows_scatter_32 : decode prog_9_method_4_code 32 = .ok (.aload_n 1, 1) := by decide +kernel
theorem d_Rows_scatter_33 : decode prog_9_method_4_code 33 = .ok (.aload_n 3, 1) := by decide +kernel
theorem d_Rows_scatter_34 : decode prog_9_method_4_code 34 = .ok (.getfield 34, 3) := by decide +kernel
theorem d_Rows_scatter_37 : decode prog_9_method_4_code 37 = .ok (.iload_n 2, 1) := by decide +kernel
theorem d_Rows_scatter_38 : decode prog_9_method_4_code 38 = .ok (.iaload, 1) := by decide +kernel
theorem d_Rows_scatter_39 : decode prog_9_method_4_code 39 = .ok (.iload 6, 2) := by decide +kernel
theorem d_Rows_scatter_41 : decode prog_9_method_4_code 41 = .ok (.aload_n 3, 1) := by decide +kernel
theorem d_Rows_scatter_42 : decode prog_9_method_4_code 42 = .ok (.getfield 37, 3) := by decide +kernel
theorem d_Rows_scatter_45 : decode prog_9_method_4_code 45 = .ok (.iload_n 2, 1) := by decide +kernel
theorem d_Rows_scatter_46 : decode prog_9_method_4_code 46 = .ok (.iaload, 1) := by decide +kernel
theorem d_Rows_scatter_47 : decode prog_9_method_4_code 47 = .ok (.imul, 1) := by decide +kernel
theorem d_Rows_scatter_48 : decode prog_9_method_4_code 48 = .ok (.iadd, 1) := by decide +kernel
theorem d_Rows_scatter_49 : decode prog_9_method_4_code 49 = .ok (.aload_n 3, 1) := by decide +kernel
theorem d_Rows_scatter_50 : decode prog_9_method_4_code 50 = .ok (.getfield 40, 3) := by decide +kernel
theorem d_Rows_scatter_53 : decode prog_9_method_4_code 53 = .ok (.iload_n 2, 1) := by decide +kernel
theorem d_Rows_scatter_54 : decode prog_9_method_4_code 54 = .ok (.iaload, 1) := by decide +kernel
theorem d_Rows_scatter_55 : decode prog_9_method_4_code 55 = .ok (.invokevirtual 43, 3) := by decide +kernel
theorem d_Rows_scatter_58 : decode prog_9_method_4_code 58 = .ok (.istore 7, 2) := by decide +kernel
theorem d_Rows_scatter_60 : decode prog_9_method_4_code 60 = .ok (.iconst 0, 1) := by decide +kernel
theorem d_Rows_scatter_61 : decode prog_9_method_4_code 61 = .ok (.istore 8, 2) := by decide +kernel
theorem d_Rows_scatter_63 : decode prog_9_method_4_code 63 = .ok (.iload 8, 2) := by decide +kernel
theorem d_Rows_scatter_65 : decode prog_9_method_4_code 65 = .ok (.aload_n 1, 1) := by decide +kernel
theorem d_Rows_scatter_66 : decode prog_9_method_4_code 66 = .ok (.getfield 47, 3) := by decide +kernel
theorem d_Rows_scatter_69 : decode prog_9_method_4_code 69 = .ok (.if_icmp .ge 34, 3) := by decide +kernel
theorem d_Rows_scatter_72 : decode prog_9_method_4_code 72 = .ok (.aload_n 1, 1) := by decide +kernel
theorem d_Rows_scatter_73 : decode prog_9_method_4_code 73 = .ok (.getfield 54, 3) := by decide +kernel
theorem d_Rows_scatter_76 : decode prog_9_method_4_code 76 = .ok (.iload 7, 2) := by decide +kernel
theorem d_Rows_scatter_78 : decode prog_9_method_4_code 78 = .ok (.iload 8, 2) := by decide +kernel
theorem d_Rows_scatter_80 : decode prog_9_method_4_code 80 = .ok (.iadd, 1) := by decide +kernel
theorem d_Rows_scatter_81 : decode prog_9_method_4_code 81 = .ok (.aload_n 0, 1) := by decide +kernel
theorem d_Rows_scatter_82 : decode prog_9_method_4_code 82 = .ok (.iload 4, 2) := by decide +kernel
theorem d_Rows_scatter_84 : decode prog_9_method_4_code 84 = .ok (.iload 5, 2) := by decide +kernel
theorem d_Rows_scatter_86 : decode prog_9_method_4_code 86 = .ok (.aload_n 1, 1) := by decide +kernel
theorem d_Rows_scatter_87 : decode prog_9_method_4_code 87 = .ok (.getfield 51, 3) := by decide +kernel
theorem d_Rows_scatter_90 : decode prog_9_method_4_code 90 = .ok (.invokevirtual 61, 3) := by decide +kernel
theorem d_Rows_scatter_93 : decode prog_9_method_4_code 93 = .ok (.iastore, 1) := by decide +kernel
theorem d_Rows_scatter_94 : decode prog_9_method_4_code 94 = .ok (.iinc 5 1, 3) := by decide +kernel
theorem d_Rows_scatter_97 : decode prog_9_method_4_code 97 = .ok (.iinc 8 1, 3) := by decide +kernel
theorem d_Rows_scatter_100 : decode prog_9_method_4_code 100 = .ok (.goto (-37), 3) := by decide +kernel
theorem d_Rows_scatter_103 : decode prog_9_method_4_code 103 = .ok (.iinc 6 1, 3) := by decide +kernel
theorem d_Rows_scatter_106 : decode prog_9_method_4_code 106 = .ok (.goto (-85), 3) := by decide +kernel
theorem d_Rows_scatter_109 : decode prog_9_method_4_code 109 = .ok (.return_, 1) := by decide +kernel
set_option maxRecDepth 100000 in
set_option maxHeartbeats 4000000 in
theorem c_Rows_scatter {l0 : Launch} (hl : l0.stackTraces = false) (n : Nat) (ids : List Nat) {t : Nat} (ht : mm_ok ids t 1 3) {r0 : Nat} (hr0 : mm_ok ids r0 1 10) (a1 : Int32) (σ : Mm) : kw_C l0 y_Rows_scatter (Cond.code y_Rows_scatter prog_9_method_4_code 9 none :: kw_Ts) rm_Rows_scatter kw_ov ids [] [.ref t, .ref r0, .int a1] σ (F_Rows_scatter n t r0 a1 σ) := by
  refine kw_start (L0 := [some (.ref t), some (.ref r0), some (.int a1), none, none, none, none, none, none]) hl (by decide +kernel) (Nat.le_of_ble_eq_true rfl) rfl (fun Γ ad C Ce => ?_)
  unfold F_Rows_scatter
  refine kw_aload_n C d_Rows_scatter_0 rfl ?_
  refine kw_getR C fi_Rows_19 rfl rfl hr0 d_Rows_scatter_1 (fun o1 ho1 => ?_)
  refine kw_astore_n (L' := [some (.ref t), some (.ref r0), some (.int a1), some (.ref o1), none, none, none, none, none]) C d_Rows_scatter_4 (by decide) rfl ?_
  refine kw_aload_n C d_Rows_scatter_5 rfl ?_
  refine kw_getR C fi_Rows_25 rfl rfl ho1 d_Rows_scatter_6 (fun o2 ho2 => ?_)
  refine kw_iload_n C d_Rows_scatter_9 rfl ?_
  refine kw_iald C (Or.inl ⟨ho2.1, ho2.2.1⟩) d_Rows_scatter_10 ?_
  refine kw_iconst (v := 1) C d_Rows_scatter_11 (by decide) ?_
  refine kw_iadd C d_Rows_scatter_12 ?_
  refine kw_leti (fun x3 => ?_)
  refine kw_istore (L' := [some (.ref t), some (.ref r0), some (.int a1), some (.ref o1), some (.int x3), none, none, none, none]) C d_Rows_scatter_13 (by decide) rfl ?_
  refine kw_iconst (v := 0) C d_Rows_scatter_15 (by decide) ?_
  refine kw_istore (L' := [some (.ref t), some (.ref r0), some (.int a1), some (.ref o1), some (.int x3), some (.int 0), none, none, none]) C d_Rows_scatter_16 (by decide) rfl ?_
  refine kw_iconst (v := 0) C d_Rows_scatter_18 (by decide) ?_
  refine kw_istore (L' := [some (.ref t), some (.ref r0), some (.int a1), some (.ref o1), some (.int x3), some (.int 0), some (.int 0), none, none]) C d_Rows_scatter_19 (by decide) rfl ?_
  refine kw_wk (kw_l (α := Int32 × Int32) (pc := 21) (Lj := fun x5 => [some (.ref t), some (.ref r0), some (.int a1), some (.ref o1), some (.int x3), some (.int x5.1), some (.int x5.2), none, none]) (stj := fun x5 => []) (fun k4 hk4 x5 σ6 => ?_) n (0, 0) σ) ⟨Or.inr rfl, Or.inr rfl, Or.inr rfl, Or.inr rfl, Or.inr rfl, Or.inr rfl, Or.inr rfl, Or.inl rfl, Or.inl rfl, trivial⟩
  refine kw_iload C d_Rows_scatter_21 rfl ?_
  refine kw_aload_n C d_Rows_scatter_23 rfl ?_
  refine kw_getR C fi_Rows_31 rfl rfl ho1 d_Rows_scatter_24 (fun o7 ho7 => ?_)
  refine kw_iload_n C d_Rows_scatter_27 rfl ?_
  refine kw_iald C (Or.inl ⟨ho7.1, ho7.2.1⟩) d_Rows_scatter_28 ?_
  refine kw_icmp_ge (tgt := 109) C d_Rows_scatter_29 (by decide) ?_ ?_
  · exact kw_vret C Ce rfl (by simp) (fun _ _ => rfl) (Nat.le_of_ble_eq_true rfl) (Nat.le_of_ble_eq_true rfl) rfl d_Rows_scatter_109
  · refine kw_aload_n C d_Rows_scatter_32 rfl ?_
    refine kw_aload_n C d_Rows_scatter_33 rfl ?_
    refine kw_getR C fi_Rows_34 rfl rfl ho1 d_Rows_scatter_34 (fun o8 ho8 => ?_)
    refine kw_iload_n C d_Rows_scatter_37 rfl ?_
    refine kw_iald C (Or.inl ⟨ho8.1, ho8.2.1⟩) d_Rows_scatter_38 ?_
    refine kw_iload C d_Rows_scatter_39 rfl ?_
    refine kw_aload_n C d_Rows_scatter_41 rfl ?_
    refine kw_getR C fi_Rows_37 rfl rfl ho1 d_Rows_scatter_42 (fun o9 ho9 => ?_)
    refine kw_iload_n C d_Rows_scatter_45 rfl ?_
    refine kw_iald C (Or.inl ⟨ho9.1, ho9.2.1⟩) d_Rows_scatter_46 ?_
    refine kw_imul C d_Rows_scatter_47 ?_
    refine kw_iadd C d_Rows_scatter_48 ?_
    refine kw_aload_n C d_Rows_scatter_49 rfl ?_
    refine kw_getR C fi_Rows_40 rfl rfl ho1 d_Rows_scatter_50 (fun o10 ho10 => ?_)
    refine kw_iload_n C d_Rows_scatter_53 rfl ?_
    refine kw_iald C (Or.inl ⟨ho10.1, ho10.2.1⟩) d_Rows_scatter_54 ?_
    refine kw_callVi (cl' := 0) (sl' := 0) (As := [.int ((gB σ6 o8 a1.toNatClampNeg) + (x5.2 * (gB σ6 o9 a1.toNatClampNeg))), .int (gB σ6 o10 a1.toNatClampNeg)]) C (c_Picture_indexOf hl n ids hr0 ((gB σ6 o8 a1.toNatClampNeg) + (x5.2 * (gB σ6 o9 a1.toNatClampNeg))) (gB σ6 o10 a1.toNatClampNeg) σ6) mi_Rows_43 v_Picture_indexOf ⟨_, _, rfl⟩ hr0 ⟨Nat.le_of_ble_eq_true rfl, Nat.le_of_ble_eq_true rfl⟩ (Nat.le_of_ble_eq_true rfl) ⟨Nat.le_of_ble_eq_true rfl, Nat.le_of_ble_eq_true rfl⟩ ⟨rfl, rfl⟩ rfl d_Rows_scatter_55 (fun x11 σ12 => ?_)
    refine kw_istore (L' := [some (.ref t), some (.ref r0), some (.int a1), some (.ref o1), some (.int x3), some (.int x5.1), some (.int x5.2), some (.int x11), none]) C d_Rows_scatter_58 (by decide) rfl ?_
    refine kw_iconst (v := 0) C d_Rows_scatter_60 (by decide) ?_
    refine kw_istore (L' := [some (.ref t), some (.ref r0), some (.int a1), some (.ref o1), some (.int x3), some (.int x5.1), some (.int x5.2), some (.int x11), some (.int 0)]) C d_Rows_scatter_61 (by decide) rfl ?_
    refine kw_wk (kw_l (α := Int32 × Int32) (pc := 63) (Lj := fun x14 => [some (.ref t), some (.ref r0), some (.int a1), some (.ref o1), some (.int x3), some (.int x14.1), some (.int x5.2), some (.int x11), some (.int x14.2)]) (stj := fun x14 => []) (fun k13 hk13 x14 σ15 => ?_) n (x5.1, 0) σ12) ⟨Or.inr rfl, Or.inr rfl, Or.inr rfl, Or.inr rfl, Or.inr rfl, Or.inr rfl, Or.inr rfl, Or.inr rfl, Or.inr rfl, trivial⟩
    refine kw_iload C d_Rows_scatter_63 rfl ?_
    refine kw_aload_n C d_Rows_scatter_65 rfl ?_
    refine kw_getI C fi_Rows_47 (Or.inl rfl) hr0 d_Rows_scatter_66 ?_
    refine kw_icmp_ge (tgt := 103) C d_Rows_scatter_69 (by decide) ?_ ?_
    · refine kw_iincL (L2 := fun x16 => [some (.ref t), some (.ref r0), some (.int a1), some (.ref o1), some (.int x3), some (.int x14.1), some (.int x16), some (.int x11), some (.int x14.2)]) C d_Rows_scatter_103 (by decide) rfl (fun _ => rfl) (fun x16 => ?_)
      refine kw_goto (tgt := 21) C d_Rows_scatter_106 (by decide) ?_
      exact kw_wk (hk4 (x14.1, x16) σ15) ⟨Or.inr rfl, Or.inr rfl, Or.inr rfl, Or.inr rfl, Or.inr rfl, Or.inr rfl, Or.inr rfl, Or.inl rfl, Or.inl rfl, trivial⟩
    · refine kw_aload_n C d_Rows_scatter_72 rfl ?_
      refine kw_getR C fi_Rows_54 rfl rfl hr0 d_Rows_scatter_73 (fun o17 ho17 => ?_)
      refine kw_iload C d_Rows_scatter_76 rfl ?_
      refine kw_iload C d_Rows_scatter_78 rfl ?_
      refine kw_iadd C d_Rows_scatter_80 ?_
      refine kw_aload_n C d_Rows_scatter_81 rfl ?_
      refine kw_iload C d_Rows_scatter_82 rfl ?_
      refine kw_iload C d_Rows_scatter_84 rfl ?_
      refine kw_aload_n C d_Rows_scatter_86 rfl ?_
      refine kw_getI C fi_Rows_51 (Or.inl rfl) hr0 d_Rows_scatter_87 ?_
      refine kw_callVi (cl' := 0) (sl' := 0) (As := [.int x3, .int x14.1, .int (gS σ15 (64 * r0 + 3))]) C (c_Rows_sampleAt hl n ids ht x3 x14.1 (gS σ15 (64 * r0 + 3)) σ15) mi_Rows_61 v_Rows_sampleAt ⟨_, _, rfl⟩ ht ⟨Nat.le_of_ble_eq_true rfl, Nat.le_of_ble_eq_true rfl⟩ (Nat.le_of_ble_eq_true rfl) ⟨Nat.le_of_ble_eq_true rfl, Nat.le_of_ble_eq_true rfl⟩ ⟨rfl, rfl⟩ rfl d_Rows_scatter_90 (fun x18 σ19 => ?_)
      refine kw_iast C ho17 d_Rows_scatter_93 (fun σ20 => ?_)
      refine kw_iincL (L2 := fun x21 => [some (.ref t), some (.ref r0), some (.int a1), some (.ref o1), some (.int x3), some (.int x21), some (.int x5.2), some (.int x11), some (.int x14.2)]) C d_Rows_scatter_94 (by decide) rfl (fun _ => rfl) (fun x21 => ?_)
      refine kw_iincL (L2 := fun x22 => [some (.ref t), some (.ref r0), some (.int a1), some (.ref o1), some (.int x3), some (.int x21), some (.int x5.2), some (.int x11), some (.int x22)]) C d_Rows_scatter_97 (by decide) rfl (fun _ => rfl) (fun x22 => ?_)
      refine kw_goto (tgt := 63) C d_Rows_scatter_100 (by decide) ?_
      exact kw_wk (hk13 (x21, x22) σ20) ⟨Or.inr rfl, Or.inr rfl, Or.inr rfl, Or.inr rfl, Or.inr rfl, Or.inr rfl, Or.inr rfl, Or.inr rfl, Or.inr rfl, trivial⟩
/-! Rows_allColoursThere -/
def rm_Rows_allColoursThere : Room := { frames := 1, cells := 0, slots := 0, locals := 22 }
def F_Rows_allColoursThere (n : Nat) (r0 : Nat) (r1 : Nat) (σ : Mm) : Option (Int32 × Mm) :=
kf_l (α := Int32) n (fun k1 x2 σ3 =>
if ((gS σ3 (64 * r0 + 0)) * (gS σ3 (64 * r0 + 1))) ≤ x2 then (
kf_z 1 (some (1, σ3))) else (
Option.bind (gR σ3 (64 * r0 + 8)) fun o4 =>
kf_in x2 (mm_kd o4).2.2 <|
if (gB σ3 o4 x2.toNatClampNeg) < (gS σ3 (64 * r0 + 6)) then (
kf_let (x2 + Int32.ofInt 1) fun x5 =>
k1 x5 σ3) else (
kf_c2 (F_Fault_refuse n r1 31 x2 σ3) fun x6 σ7 =>
kf_z x6 (some (x6, σ7))))) 0 σ
theorem d_Rows_allColoursThere_0 : decode prog_9_method_13_code 0 = .ok (.iconst 0, 1) := by decide +kernel
theorem d_Rows_allColoursThere_1 : decode prog_9_method_13_code 1 = .ok (.istore_n 2, 1) := by decide +kernel
theorem d_Rows_allColoursThere_2 : decode prog_9_method_13_code 2 = .ok (.iload_n 2, 1) := by decide +kernel
theorem d_Rows_allColoursThere_3 : decode prog_9_method_13_code 3 = .ok (.aload_n 0, 1) := by decide +kernel
theorem d_Rows_allColoursThere_4 : decode prog_9_method_13_code 4 = .ok (.getfield 116, 3) := by decide +kernel
theorem d_Rows_allColoursThere_7 : decode prog_9_method_13_code 7 = .ok (.aload_n 0, 1) := by decide +kernel
theorem d_Rows_allColoursThere_8 : decode prog_9_method_13_code 8 = .ok (.getfield 119, 3) := by decide +kernel
theorem d_Rows_allColoursThere_11 : decode prog_9_method_13_code 11 = .ok (.imul, 1) := by decide +kernel
theorem d_Rows_allColoursThere_12 : decode prog_9_method_13_code 12 = .ok (.if_icmp .ge 30, 3) := by decide +kernel
theorem d_Rows_allColoursThere_15 : decode prog_9_method_13_code 15 = .ok (.aload_n 0, 1) := by decide +kernel
theorem d_Rows_allColoursThere_16 : decode prog_9_method_13_code 16 = .ok (.getfield 54, 3) := by decide +kernel
theorem d_Rows_allColoursThere_19 : decode prog_9_method_13_code 19 = .ok (.iload_n 2, 1) := by decide +kernel
theorem d_Rows_allColoursThere_20 : decode prog_9_method_13_code 20 = .ok (.iaload, 1) := by decide +kernel
theorem d_Rows_allColoursThere_21 : decode prog_9_method_13_code 21 = .ok (.aload_n 0, 1) := by decide +kernel
theorem d_Rows_allColoursThere_22 : decode prog_9_method_13_code 22 = .ok (.getfield 122, 3) := by decide +kernel
theorem d_Rows_allColoursThere_25 : decode prog_9_method_13_code 25 = .ok (.if_icmp .lt 11, 3) := by decide +kernel
theorem d_Rows_allColoursThere_28 : decode prog_9_method_13_code 28 = .ok (.aload_n 1, 1) := by decide +kernel
theorem d_Rows_allColoursThere_29 : decode prog_9_method_13_code 29 = .ok (.bipush 31, 2) := by decide +kernel
theorem d_Rows_allColoursThere_31 : decode prog_9_method_13_code 31 = .ok (.iload_n 2, 1) := by decide +kernel
theorem d_Rows_allColoursThere_32 : decode prog_9_method_13_code 32 = .ok (.invokevirtual 100, 3) := by decide +kernel
theorem d_Rows_allColoursThere_35 : decode prog_9_method_13_code 35 = .ok (.ireturn, 1) := by decide +kernel
theorem d_Rows_allColoursThere_36 : decode prog_9_method_13_code 36 = .ok (.iinc 2 1, 3) := by decide +kernel
theorem d_Rows_allColoursThere_39 : decode prog_9_method_13_code 39 = .ok (.goto (-37), 3) := by decide +kernel
theorem d_Rows_allColoursThere_42 : decode prog_9_method_13_code 42 = .ok (.iconst 1, 1) := by decide +kernel
theorem d_Rows_allColoursThere_43 : decode prog_9_method_13_code 43 = .ok (.ireturn, 1) := by decide +kernel
set_option maxRecDepth 100000 in
set_option maxHeartbeats 4000000 in
theorem c_Rows_allColoursThere {l0 : Launch} (hl : l0.stackTraces = false) (n : Nat) (ids : List Nat) {r0 : Nat} (hr0 : mm_ok ids r0 1 10) {r1 : Nat} (hr1 : mm_ok ids r1 1 2)  (σ : Mm) : kw_C l0 y_Rows_allColoursThere (Cond.code y_Rows_allColoursThere prog_9_method_13_code 3 (some .boolean) :: kw_Ts) rm_Rows_allColoursThere kw_oi ids [] [.ref r0, .ref r1] σ (F_Rows_allColoursThere n r0 r1 σ) := by
  refine kw_start (L0 := [some (.ref r0), some (.ref r1), none]) hl (by decide +kernel) (Nat.le_of_ble_eq_true rfl) rfl (fun Γ ad C Ce => ?_)
  unfold F_Rows_allColoursThere
  refine kw_iconst (v := 0) C d_Rows_allColoursThere_0 (by decide) ?_
  refine kw_istore_n (L' := [some (.ref r0), some (.ref r1), some (.int 0)]) C d_Rows_allColoursThere_1 (by decide) rfl ?_
  refine kw_wk (kw_l (α := Int32) (pc := 2) (Lj := fun x2 => [some (.ref r0), some (.ref r1), some (.int x2)]) (stj := fun x2 => []) (fun k1 hk1 x2 σ3 => ?_) n 0 σ) ⟨Or.inr rfl, Or.inr rfl, Or.inr rfl, trivial⟩
  refine kw_iload_n C d_Rows_allColoursThere_2 rfl ?_
  refine kw_aload_n C d_Rows_allColoursThere_3 rfl ?_
  refine kw_getI C fi_Rows_116 (Or.inl rfl) hr0 d_Rows_allColoursThere_4 ?_
  refine kw_aload_n C d_Rows_allColoursThere_7 rfl ?_
  refine kw_getI C fi_Rows_119 (Or.inl rfl) hr0 d_Rows_allColoursThere_8 ?_
  refine kw_imul C d_Rows_allColoursThere_11 ?_
  refine kw_icmp_ge (tgt := 42) C d_Rows_allColoursThere_12 (by decide) ?_ ?_
  · refine kw_iconst (v := 1) C d_Rows_allColoursThere_42 (by decide) ?_
    exact kw_zret C Ce rfl (by simp) (fun _ _ => rfl) (Nat.le_of_ble_eq_true rfl) (Nat.le_of_ble_eq_true rfl) rfl d_Rows_allColoursThere_43
  · refine kw_aload_n C d_Rows_allColoursThere_15 rfl ?_
    refine kw_getR C fi_Rows_54 rfl rfl hr0 d_Rows_allColoursThere_16 (fun o4 ho4 => ?_)
    refine kw_iload_n C d_Rows_allColoursThere_19 rfl ?_
    refine kw_iald C (Or.inl ⟨ho4.1, ho4.2.1⟩) d_Rows_allColoursThere_20 ?_
    refine kw_aload_n C d_Rows_allColoursThere_21 rfl ?_
    refine kw_getI C fi_Rows_122 (Or.inl rfl) hr0 d_Rows_allColoursThere_22 ?_
    refine kw_icmp_lt (tgt := 36) C d_Rows_allColoursThere_25 (by decide) ?_ ?_
    · refine kw_iincL (L2 := fun x5 => [some (.ref r0), some (.ref r1), some (.int x5)]) C d_Rows_allColoursThere_36 (by decide) rfl (fun _ => rfl) (fun x5 => ?_)
      refine kw_goto (tgt := 2) C d_Rows_allColoursThere_39 (by decide) ?_
      exact kw_wk (hk1 x5 σ3) ⟨Or.inr rfl, Or.inr rfl, Or.inr rfl, trivial⟩
    · refine kw_aload_n C d_Rows_allColoursThere_28 rfl ?_
      refine kw_bipush (v := 31) C d_Rows_allColoursThere_29 (by decide) ?_
      refine kw_iload_n C d_Rows_allColoursThere_31 rfl ?_
      refine kw_callVi (cl' := 0) (sl' := 0) (As := [.int 31, .int x2]) C (c_Fault_refuse hl n ids hr1 31 x2 σ3) mi_Rows_100 v_Fault_refuse ⟨_, _, rfl⟩ hr1 ⟨Nat.le_of_ble_eq_true rfl, Nat.le_of_ble_eq_true rfl⟩ (Nat.le_of_ble_eq_true rfl) ⟨Nat.le_of_ble_eq_true rfl, Nat.le_of_ble_eq_true rfl⟩ ⟨rfl, rfl⟩ rfl d_Rows_allColoursThere_32 (fun x6 σ7 => ?_)
      exact kw_zret C Ce rfl (by simp) (fun _ _ => rfl) (Nat.le_of_ble_eq_true rfl) (Nat.le_of_ble_eq_true rfl) rfl d_Rows_allColoursThere_35
/-! Rows_restore -/
def rm_Rows_restore : Room := { frames := 3, cells := 0, slots := 0, locals := 75 }
def F_Rows_restore (n : Nat) (t : Nat) (r0 : Nat) (r1 : Nat) (σ : Mm) : Option (Int32 × Mm) :=
Option.bind (gR σ (64 * r0 + 11)) fun o1 =>
kf_l (α := Int32) n (fun k2 x3 σ4 =>
if (gS σ4 (64 * o1 + 0)) ≤ x3 then (
kf_l (α := Int32) n (fun k5 x6 σ7 =>
if (gS σ7 (64 * o1 + 0)) ≤ x6 then (
kf_j (α := Int32) (fun x9 σ10 =>
kf_z x9 (some (x9, σ10))) fun k8 =>
kf_j (α := Unit) (fun x12 σ13 =>
k8 1 σ13) fun k11 =>
if (gS σ7 (64 * r0 + 2)) = 3 then (
kf_c2 (F_Rows_allColoursThere n r0 r1 σ7) fun x14 σ15 =>
if x14 = 0 then (
k8 0 σ15) else (
k11 () σ15)) else (
k11 () σ7)) else (
Option.bind (gR σ7 (64 * o1 + 7)) fun o16 =>
kf_in x6 (mm_kd o16).2.2 <|
kf_let ((gB σ7 o16 x6.toNatClampNeg) + 1 : Int32) fun x17 =>
Option.bind (gR σ7 (64 * t + 0)) fun o18 =>
kf_let (x17 - 1 : Int32) fun x19 =>
kf_in x19 (mm_kd o18).2.2 <|
kf_let (gB σ7 o18 x19.toNatClampNeg : Int32) fun x20 =>
kf_l (α := Int32) n (fun k21 x22 σ23 =>
Option.bind (gR σ23 (64 * o1 + 8)) fun o24 =>
kf_in x6 (mm_kd o24).2.2 <|
if (gB σ23 o24 x6.toNatClampNeg) ≤ x22 then (
Option.bind (F_Rows_scatter n t r0 x6 σ23) fun σ25 =>
kf_let (x6 + Int32.ofInt 1) fun x26 =>
k5 x26 σ25) else (
Option.bind (gR σ23 (64 * t + 1)) fun o27 =>
Option.bind (gR σ23 (64 * t + 0)) fun o28 =>
kf_let (x17 + x22 : Int32) fun x29 =>
kf_in x29 (mm_kd o28).2.2 <|
kf_c2 (F_Rows_guess n t o1 x6 x22 x20 σ23) fun x30 σ31 =>
kf_in (x17 + x22) (mm_kd o27).2.2 <| kf_let (pB σ31 o27 (x17 + x22).toNatClampNeg (((gB σ23 o28 x29.toNatClampNeg) + x30) &&& 255)) fun σ32 =>
kf_let (x22 + Int32.ofInt 1) fun x33 =>
k21 x33 σ32)) 0 σ7)) 0 σ4) else (
Option.bind (gR σ4 (64 * t + 0)) fun o34 =>
Option.bind (gR σ4 (64 * o1 + 7)) fun o35 =>
kf_in x3 (mm_kd o35).2.2 <|
kf_let (gB σ4 o35 x3.toNatClampNeg : Int32) fun x36 =>
kf_in x36 (mm_kd o34).2.2 <|
if (gB σ4 o34 x36.toNatClampNeg) < 5 then (
kf_let (x3 + Int32.ofInt 1) fun x37 =>
k2 x37 σ4) else (
Option.bind (gR σ4 (64 * o1 + 7)) fun o38 =>
kf_in x3 (mm_kd o38).2.2 <|
kf_c2 (F_Fault_refuse n r1 30 (gB σ4 o38 x3.toNatClampNeg) σ4) fun x39 σ40 =>
kf_z x39 (some (x39, σ40))))) 0 σ
theorem d_Rows_restore_0 : decode prog_9_method_12_code 0 = .ok (.aload_n 1, 1) := by decide +kernel
theorem d_Rows_restore_1 : decode prog_9_method_12_code 1 = .ok (.getfield 19, 3) := by decide +kernel
theorem d_Rows_restore_4 : decode prog_9_method_12_code 4 = .ok (.astore_n 3, 1) := by decide +kernel
theorem d_Rows_restore_5 : decode prog_9_method_12_code 5 = .ok (.iconst 0, 1) := by decide +kernel
theorem d_Rows_restore_6 : decode prog_9_method_12_code 6 = .ok (.istore 4, 2) := by decide +kernel
theorem d_Rows_restore_8 : decode prog_9_method_12_code 8 = .ok (.iload 4, 2) := by decide +kernel
theorem d_Rows_restore_10 : decode prog_9_method_12_code 10 = .ok (.aload_n 3, 1) := by decide +kernel
theorem d_Rows_restore_11 : decode prog_9_method_12_code 11 = .ok (.getfield 88, 3) := by decide +kernel
theorem d_Rows_restore_14 : decode prog_9_method_12_code 14 = .ok (.if_icmp .ge 39, 3) := by decide +kernel
theorem d_Rows_restore_17 : decode prog_9_method_12_code 17 = .ok (.aload_n 0, 1) := by decide +kernel
theorem d_Rows_restore_18 : decode prog_9_method_12_code 18 = .ok (.getfield 10, 3) := by decide +kernel
theorem d_Rows_restore_21 : decode prog_9_method_12_code 21 = .ok (.aload_n 3, 1) := by decide +kernel
theorem d_Rows_restore_22 : decode prog_9_method_12_code 22 = .ok (.getfield 25, 3) := by decide +kernel
theorem d_Rows_restore_25 : decode prog_9_method_12_code 25 = .ok (.iload 4, 2) := by decide +kernel
theorem d_Rows_restore_27 : decode prog_9_method_12_code 27 = .ok (.iaload, 1) := by decide +kernel
theorem d_Rows_restore_28 : decode prog_9_method_12_code 28 = .ok (.iaload, 1) := by decide +kernel
theorem d_Rows_restore_29 : decode prog_9_method_12_code 29 = .ok (.iconst 5, 1) := by decide +kernel
theorem d_Rows_restore_30 : decode prog_9_method_12_code 30 = .ok (.if_icmp .lt 17, 3) := by decide +kernel
theorem d_Rows_restore_33 : decode prog_9_method_12_code 33 = .ok (.aload_n 2, 1) := by decide +kernel
theorem d_Rows_restore_34 : decode prog_9_method_12_code 34 = .ok (.bipush 30, 2) := by decide +kernel
theorem d_Rows_restore_36 : decode prog_9_method_12_code 36 = .ok (.aload_n 3, 1) := by decide +kernel
theorem d_Rows_restore_37 : decode prog_9_method_12_code 37 = .ok (.getfield 25, 3) := by decide +kernel
theorem d_Rows_restore_40 : decode prog_9_method_12_code 40 = .ok (.iload 4, 2) := by decide +kernel
theorem d_Rows_restore_42 : decode prog_9_method_12_code 42 = .ok (.iaload, 1) := by decide +kernel
theorem d_Rows_restore_43 : decode prog_9_method_12_code 43 = .ok (.invokevirtual 100, 3) := by decide +kernel
theorem d_Rows_restore_46 : decode prog_9_method_12_code 46 = .ok (.ireturn, 1) := by decide +kernel
theorem d_Rows_restore_47 : decode prog_9_method_12_code 47 = .ok (.iinc 4 1, 3) := by decide +kernel
theorem d_Rows_restore_50 : decode prog_9_method_12_code 50 = .ok (.goto (-42), 3) := by decide +kernel
theorem d_Rows_restore_53 : decode prog_9_method_12_code 53 = .ok (.iconst 0, 1) := by decide +kernel
theorem d_Rows_restore_54 : decode prog_9_method_12_code 54 = .ok (.istore 4, 2) := by decide +kernel
theorem d_Rows_restore_56 : decode prog_9_method_12_code 56 = .ok (.iload 4, 2) := by decide +kernel
theorem d_Rows_restore_58 : decode prog_9_method_12_code 58 = .ok (.aload_n 3, 1) := by decide +kernel
theorem d_Rows_restore_59 : decode prog_9_method_12_code 59 = .ok (.getfield 88, 3) := by decide +kernel
theorem d_Rows_restore_62 : decode prog_9_method_12_code 62 = .ok (.if_icmp .ge 95, 3) := by decide +kernel
theorem d_Rows_restore_65 : decode prog_9_method_12_code 65 = .ok (.aload_n 3, 1) := by decide +kernel
theorem d_Rows_restore_66 : decode prog_9_method_12_code 66 = .ok (.getfield 25, 3) := by decide +kernel
theorem d_Rows_restore_69 : decode prog_9_method_12_code 69 = .ok (.iload 4, 2) := by decide +kernel
theorem d_Rows_restore_71 : decode prog_9_method_12_code 71 = .ok (.iaload, 1) := by decide +kernel
theorem d_Rows_restore_72 : decode prog_9_method_12_code 72 = .ok (.iconst 1, 1) := by decide +kernel
theorem d_Rows_restore_73 : decode prog_9_method_12_code 73 = .ok (.iadd, 1) := by decide +kernel
theorem d_Rows_restore_74 : decode prog_9_method_12_code 74 = .ok (.istore 5, 2) := by decide +kernel
theorem d_Rows_restore_76 : decode prog_9_method_12_code 76 = .ok (.aload_n 0, 1) := by decide +kernel
theorem d_Rows_restore_77 : decode prog_9_method_12_code 77 = .ok (.getfield 10, 3) := by decide +kernel
theorem d_Rows_restore_80 : decode prog_9_method_12_code 80 = .ok (.iload 5, 2) := by decide +kernel
theorem d_Rows_restore_82 : decode prog_9_method_12_code 82 = .ok (.iconst 1, 1) := by decide +kernel
theorem d_Rows_restore_83 : decode prog_9_method_12_code 83 = .ok (.isub, 1) := by decide +kernel
theorem d_Rows_restore_84 : decode prog_9_method_12_code 84 = .ok (.iaload, 1) := by decide +kernel
theorem d_Rows_restore_85 : decode prog_9_method_12_code 85 = .ok (.istore 6, 2) := by decide +kernel
theorem d_Rows_restore_87 : decode prog_9_method_12_code 87 = .ok (.iconst 0, 1) := by decide +kernel
theorem d_Rows_restore_88 : decode prog_9_method_12_code 88 = .ok (.istore 7, 2) := by decide +kernel
theorem d_Rows_restore_90 : decode prog_9_method_12_code 90 = .ok (.iload 7, 2) := by decide +kernel
theorem d_Rows_restore_92 : decode prog_9_method_12_code 92 = .ok (.aload_n 3, 1) := by decide +kernel
theorem d_Rows_restore_93 : decode prog_9_method_12_code 93 = .ok (.getfield 28, 3) := by decide +kernel
theorem d_Rows_restore_96 : decode prog_9_method_12_code 96 = .ok (.iload 4, 2) := by decide +kernel
theorem d_Rows_restore_98 : decode prog_9_method_12_code 98 = .ok (.iaload, 1) := by decide +kernel
theorem d_Rows_restore_99 : decode prog_9_method_12_code 99 = .ok (.if_icmp .ge 45, 3) := by decide +kernel
theorem d_Rows_restore_102 : decode prog_9_method_12_code 102 = .ok (.aload_n 0, 1) := by decide +kernel
theorem d_Rows_restore_103 : decode prog_9_method_12_code 103 = .ok (.getfield 16, 3) := by decide +kernel
theorem d_Rows_restore_106 : decode prog_9_method_12_code 106 = .ok (.iload 5, 2) := by decide +kernel
theorem d_Rows_restore_108 : decode prog_9_method_12_code 108 = .ok (.iload 7, 2) := by decide +kernel
theorem d_Rows_restore_110 : decode prog_9_method_12_code 110 = .ok (.iadd, 1) := by decide +kernel
theorem d_Rows_restore_111 : decode prog_9_method_12_code 111 = .ok (.aload_n 0, 1) := by decide +kernel
theorem d_Rows_restore_112 : decode prog_9_method_12_code 112 = .ok (.getfield 10, 3) := by decide +kernel
theorem d_Rows_restore_115 : decode prog_9_method_12_code 115 = .ok (.iload 5, 2) := by decide +kernel
theorem d_Rows_restore_117 : decode prog_9_method_12_code 117 = .ok (.iload 7, 2) := by decide +kernel
theorem d_Rows_restore_119 : decode prog_9_method_12_code 119 = .ok (.iadd, 1) := by decide +kernel
theorem d_Rows_restore_120 : decode prog_9_method_12_code 120 = .ok (.iaload, 1) := by decide +kernel
theorem d_Rows_restore_121 : decode prog_9_method_12_code 121 = .ok (.aload_n 0, 1) := by decide +kernel
theorem d_Rows_restore_122 : decode prog_9_method_12_code 122 = .ok (.aload_n 3, 1) := by decide +kernel
theorem d_Rows_restore_123 : decode prog_9_method_12_code 123 = .ok (.iload 4, 2) := by decide +kernel
theorem d_Rows_restore_125 : decode prog_9_method_12_code 125 = .ok (.iload 7, 2) := by decide +kernel
theorem d_Rows_restore_127 : decode prog_9_method_12_code 127 = .ok (.iload 6, 2) := by decide +kernel
theorem d_Rows_restore_129 : decode prog_9_method_12_code 129 = .ok (.invokevirtual 69, 3) := by decide +kernel
theorem d_Rows_restore_132 : decode prog_9_method_12_code 132 = .ok (.iadd, 1) := by decide +kernel
theorem d_Rows_restore_133 : decode prog_9_method_12_code 133 = .ok (.sipush 255, 3) := by decide +kernel
theorem d_Rows_restore_136 : decode prog_9_method_12_code 136 = .ok (.iand, 1) := by decide +kernel
theorem d_Rows_restore_137 : decode prog_9_method_12_code 137 = .ok (.iastore, 1) := by decide +kernel
theorem d_Rows_restore_138 : decode prog_9_method_12_code 138 = .ok (.iinc 7 1, 3) := by decide +kernel
theorem d_Rows_restore_141 : decode prog_9_method_12_code 141 = .ok (.goto (-51), 3) := by decide +kernel
theorem d_Rows_restore_144 : decode prog_9_method_12_code 144 = .ok (.aload_n 0, 1) := by decide +kernel
theorem d_Rows_restore_145 : decode prog_9_method_12_code 145 = .ok (.aload_n 1, 1) := by decide +kernel
theorem d_Rows_restore_146 : decode prog_9_method_12_code 146 = .ok (.iload 4, 2) := by decide +kernel
theorem d_Rows_restore_148 : decode prog_9_method_12_code 148 = .ok (.invokevirtual 106, 3) := by decide +kernel
theorem d_Rows_restore_151 : decode prog_9_method_12_code 151 = .ok (.iinc 4 1, 3) := by decide +kernel
theorem d_Rows_restore_154 : decode prog_9_method_12_code 154 = .ok (.goto (-98), 3) := by decide +kernel
theorem d_Rows_restore_157 : decode prog_9_method_12_code 157 = .ok (.aload_n 1, 1) := by decide +kernel
theorem d_Rows_restore_158 : decode prog_9_method_12_code 158 = .ok (.getfield 109, 3) := by decide +kernel
theorem d_Rows_restore_161 : decode prog_9_method_12_code 161 = .ok (.iconst 3, 1) := by decide +kernel
theorem d_Rows_restore_162 : decode prog_9_method_12_code 162 = .ok (.if_icmp .ne 11, 3) := by decide +kernel
theorem d_Rows_restore_165 : decode prog_9_method_12_code 165 = .ok (.aload_n 1, 1) := by decide +kernel
theorem d_Rows_restore_166 : decode prog_9_method_12_code 166 = .ok (.aload_n 2, 1) := by decide +kernel
theorem d_Rows_restore_167 : decode prog_9_method_12_code 167 = .ok (.invokestatic 112, 3) := by decide +kernel
theorem d_Rows_restore_170 : decode prog_9_method_12_code 170 = .ok (.ifCond .eq 7, 3) := by decide +kernel
theorem d_Rows_restore_173 : decode prog_9_method_12_code 173 = .ok (.iconst 1, 1) := by decide +kernel
theorem d_Rows_restore_174 : decode prog_9_method_12_code 174 = .ok (.goto 4, 3) := by decide +kernel
theorem d_Rows_restore_177 : decode prog_9_method_12_code 177 = .ok (.iconst 0, 1) := by decide +kernel
theorem d_Rows_restore_178 : decode prog_9_method_12_code 178 = .ok (.ireturn, 1) := by decide +kernel
set_option maxRecDepth 100000 in
set_option maxHeartbeats 4000000 in
theorem c_Rows_restore {l0 : Launch} (hl : l0.stackTraces = false) (n : Nat) (ids : List Nat) {t : Nat} (ht : mm_ok ids t 1 3) {r0 : Nat} (hr0 : mm_ok ids r0 1 10) {r1 : Nat} (hr1 : mm_ok ids r1 1 2)  (σ : Mm) : kw_C l0 y_Rows_restore (Cond.code y_Rows_restore prog_9_method_12_code 8 (some .boolean) :: kw_Ts) rm_Rows_restore kw_oi ids [] [.ref t, .ref r0, .ref r1] σ (F_Rows_restore n t r0 r1 σ) := by
  refine kw_start (L0 := [some (.ref t), some (.ref r0), some (.ref r1), none, none, none, none, none]) hl (by decide +kernel) (Nat.le_of_ble_eq_true rfl) rfl (fun Γ ad C Ce => ?_)
  unfold F_Rows_restore
  refine kw_aload_n C d_Rows_restore_0 rfl ?_
  refine kw_getR C fi_Rows_19 rfl rfl hr0 d_Rows_restore_1 (fun o1 ho1 => ?_)
  refine kw_astore_n (L' := [some (.ref t), some (.ref r0), some (.ref r1), some (.ref o1), none, none, none, none]) C d_Rows_restore_4 (by decide) rfl ?_
  refine kw_iconst (v := 0) C d_Rows_restore_5 (by decide) ?_
  refine kw_istore (L' := [some (.ref t), some (.ref r0), some (.ref r1), some (.ref o1), some (.int 0), none, none, none]) C d_Rows_restore_6 (by decide) rfl ?_
  refine kw_wk (kw_l (α := Int32) (pc := 8) (Lj := fun x3 => [some (.ref t), some (.ref r0), some (.ref r1), some (.ref o1), some (.int x3), none, none, none]) (stj := fun x3 => []) (fun k2 hk2 x3 σ4 => ?_) n 0 σ) ⟨Or.inr rfl, Or.inr rfl, Or.inr rfl, Or.inr rfl, Or.inr rfl, Or.inl rfl, Or.inl rfl, Or.inl rfl, trivial⟩
  refine kw_iload C d_Rows_restore_8 rfl ?_
  refine kw_aload_n C d_Rows_restore_10 rfl ?_
  refine kw_getI C fi_Rows_88 (Or.inl rfl) ho1 d_Rows_restore_11 ?_
  refine kw_icmp_ge (tgt := 53) C d_Rows_restore_14 (by decide) ?_ ?_
  · refine kw_iconst (v := 0) C d_Rows_restore_53 (by decide) ?_
    refine kw_istore (L' := [some (.ref t), some (.ref r0), some (.ref r1), some (.ref o1), some (.int 0), none, none, none]) C d_Rows_restore_54 (by decide) rfl ?_
    refine kw_wk (kw_l (α := Int32) (pc := 56) (Lj := fun x6 => [some (.ref t), some (.ref r0), some (.ref r1), some (.ref o1), some (.int x6), none, none, none]) (stj := fun x6 => []) (fun k5 hk5 x6 σ7 => ?_) n 0 σ4) ⟨Or.inr rfl, Or.inr rfl, Or.inr rfl, Or.inr rfl, Or.inr rfl, Or.inl rfl, Or.inl rfl, Or.inl rfl, trivial⟩
    refine kw_iload C d_Rows_restore_56 rfl ?_
    refine kw_aload_n C d_Rows_restore_58 rfl ?_
    refine kw_getI C fi_Rows_88 (Or.inl rfl) ho1 d_Rows_restore_59 ?_
    refine kw_icmp_ge (tgt := 157) C d_Rows_restore_62 (by decide) ?_ ?_
    · refine kw_aload_n C d_Rows_restore_157 rfl ?_
      refine kw_getI C fi_Rows_109 (Or.inl rfl) hr0 d_Rows_restore_158 ?_
      refine kw_iconst (v := 3) C d_Rows_restore_161 (by decide) ?_
      refine kw_j (α := Int32) (pcj := 178) (Lj := fun x9 => [none, none, none, none, none, none, none, none]) (stj := fun x9 => [.int x9]) (fun x9 σ10 => ?_) (fun k8 hk8 => ?_)
      · exact kw_zret C Ce rfl (by simp) (fun _ _ => rfl) (Nat.le_of_ble_eq_true rfl) (Nat.le_of_ble_eq_true rfl) rfl d_Rows_restore_178
      · refine kw_j (α := Unit) (pcj := 173) (Lj := fun x12 => [none, none, none, none, none, none, none, none]) (stj := fun x12 => []) (fun x12 σ13 => ?_) (fun k11 hk11 => ?_)
        · refine kw_iconst (v := 1) C d_Rows_restore_173 (by decide) ?_
          refine kw_goto (tgt := 178) C d_Rows_restore_174 (by decide) ?_
          exact kw_wk (hk8 1 σ13) ⟨Or.inl rfl, Or.inl rfl, Or.inl rfl, Or.inl rfl, Or.inl rfl, Or.inl rfl, Or.inl rfl, Or.inl rfl, trivial⟩
        · refine kw_icmp_ne (tgt := 173) C d_Rows_restore_162 (by decide) ?_ ?_
          · exact kw_wk (hk11 () σ7) ⟨Or.inl rfl, Or.inl rfl, Or.inl rfl, Or.inl rfl, Or.inl rfl, Or.inl rfl, Or.inl rfl, Or.inl rfl, trivial⟩
          · refine kw_aload_n C d_Rows_restore_165 rfl ?_
            refine kw_aload_n C d_Rows_restore_166 rfl ?_
            refine kw_callSi (cl' := 0) (sl' := 0) (As := [.ref r0, .ref r1]) C (c_Rows_allColoursThere hl n ids hr0 hr1  σ7) mi_Rows_112 s_Rows_allColoursThere ⟨Nat.le_of_ble_eq_true rfl, Nat.le_of_ble_eq_true rfl⟩ (Nat.le_of_ble_eq_true rfl) ⟨Nat.le_of_ble_eq_true rfl, Nat.le_of_ble_eq_true rfl⟩ ⟨rfl, rfl⟩ rfl d_Rows_restore_167 (fun x14 σ15 => ?_)
            refine kw_if_eq (tgt := 177) C d_Rows_restore_170 (by decide) ?_ ?_
            · refine kw_iconst (v := 0) C d_Rows_restore_177 (by decide) ?_
              exact kw_wk (hk8 0 σ15) ⟨Or.inl rfl, Or.inl rfl, Or.inl rfl, Or.inl rfl, Or.inl rfl, Or.inl rfl, Or.inl rfl, Or.inl rfl, trivial⟩
            · exact kw_wk (hk11 () σ15) ⟨Or.inl rfl, Or.inl rfl, Or.inl rfl, Or.inl rfl, Or.inl rfl, Or.inl rfl, Or.inl rfl, Or.inl rfl, trivial⟩
    · refine kw_aload_n C d_Rows_restore_65 rfl ?_
      refine kw_getR C fi_Rows_25 rfl rfl ho1 d_Rows_restore_66 (fun o16 ho16 => ?_)
      refine kw_iload C d_Rows_restore_69 rfl ?_
      refine kw_iald C (Or.inl ⟨ho16.1, ho16.2.1⟩) d_Rows_restore_71 ?_
      refine kw_iconst (v := 1) C d_Rows_restore_72 (by decide) ?_
      refine kw_iadd C d_Rows_restore_73 ?_
      refine kw_leti (fun x17 => ?_)
      refine kw_istore (L' := [some (.ref t), some (.ref r0), some (.ref r1), some (.ref o1), some (.int x6), some (.int x17), none, none]) C d_Rows_restore_74 (by decide) rfl ?_
      refine kw_aload_n C d_Rows_restore_76 rfl ?_
      refine kw_getR C fi_Rows_10 rfl rfl ht d_Rows_restore_77 (fun o18 ho18 => ?_)
      refine kw_iload C d_Rows_restore_80 rfl ?_
      refine kw_iconst (v := 1) C d_Rows_restore_82 (by decide) ?_
      refine kw_isub C d_Rows_restore_83 ?_
      refine kw_leti (fun x19 => ?_)
      refine kw_iald C (Or.inl ⟨ho18.1, ho18.2.1⟩) d_Rows_restore_84 ?_
      refine kw_leti (fun x20 => ?_)
      refine kw_istore (L' := [some (.ref t), some (.ref r0), some (.ref r1), some (.ref o1), some (.int x6), some (.int x17), some (.int x20), none]) C d_Rows_restore_85 (by decide) rfl ?_
      refine kw_iconst (v := 0) C d_Rows_restore_87 (by decide) ?_
      refine kw_istore (L' := [some (.ref t), some (.ref r0), some (.ref r1), some (.ref o1), some (.int x6), some (.int x17), some (.int x20), some (.int 0)]) C d_Rows_restore_88 (by decide) rfl ?_
      refine kw_wk (kw_l (α := Int32) (pc := 90) (Lj := fun x22 => [some (.ref t), some (.ref r0), some (.ref r1), some (.ref o1), some (.int x6), some (.int x17), some (.int x20), some (.int x22)]) (stj := fun x22 => []) (fun k21 hk21 x22 σ23 => ?_) n 0 σ7) ⟨Or.inr rfl, Or.inr rfl, Or.inr rfl, Or.inr rfl, Or.inr rfl, Or.inr rfl, Or.inr rfl, Or.inr rfl, trivial⟩
      refine kw_iload C d_Rows_restore_90 rfl ?_
      refine kw_aload_n C d_Rows_restore_92 rfl ?_
      refine kw_getR C fi_Rows_28 rfl rfl ho1 d_Rows_restore_93 (fun o24 ho24 => ?_)
      refine kw_iload C d_Rows_restore_96 rfl ?_
      refine kw_iald C (Or.inl ⟨ho24.1, ho24.2.1⟩) d_Rows_restore_98 ?_
      refine kw_icmp_ge (tgt := 144) C d_Rows_restore_99 (by decide) ?_ ?_
      · refine kw_aload_n C d_Rows_restore_144 rfl ?_
        refine kw_aload_n C d_Rows_restore_145 rfl ?_
        refine kw_iload C d_Rows_restore_146 rfl ?_
        refine kw_callVv (cl' := 0) (sl' := 0) (As := [.ref r0, .int x6]) C (c_Rows_scatter hl n ids ht hr0 x6 σ23) mi_Rows_106 v_Rows_scatter ⟨_, _, rfl⟩ ht ⟨Nat.le_of_ble_eq_true rfl, Nat.le_of_ble_eq_true rfl⟩ (Nat.le_of_ble_eq_true rfl) ⟨Nat.le_of_ble_eq_true rfl, Nat.le_of_ble_eq_true rfl⟩ ⟨rfl, rfl⟩ rfl d_Rows_restore_148 (fun σ25 => ?_)
        refine kw_iincL (L2 := fun x26 => [some (.ref t), some (.ref r0), some (.ref r1), some (.ref o1), some (.int x26), some (.int x17), some (.int x20), some (.int x22)]) C d_Rows_restore_151 (by decide) rfl (fun _ => rfl) (fun x26 => ?_)
        refine kw_goto (tgt := 56) C d_Rows_restore_154 (by decide) ?_
        exact kw_wk (hk5 x26 σ25) ⟨Or.inr rfl, Or.inr rfl, Or.inr rfl, Or.inr rfl, Or.inr rfl, Or.inl rfl, Or.inl rfl, Or.inl rfl, trivial⟩
      · refine kw_aload_n C d_Rows_restore_102 rfl ?_
        refine kw_getR C fi_Rows_16 rfl rfl ht d_Rows_restore_103 (fun o27 ho27 => ?_)
        refine kw_iload C d_Rows_restore_106 rfl ?_
        refine kw_iload C d_Rows_restore_108 rfl ?_
        refine kw_iadd C d_Rows_restore_110 ?_
        refine kw_aload_n C d_Rows_restore_111 rfl ?_
        refine kw_getR C fi_Rows_10 rfl rfl ht d_Rows_restore_112 (fun o28 ho28 => ?_)
        refine kw_iload C d_Rows_restore_115 rfl ?_
        refine kw_iload C d_Rows_restore_117 rfl ?_
        refine kw_iadd C d_Rows_restore_119 ?_
        refine kw_leti (fun x29 => ?_)
        refine kw_iald C (Or.inl ⟨ho28.1, ho28.2.1⟩) d_Rows_restore_120 ?_
        refine kw_aload_n C d_Rows_restore_121 rfl ?_
        refine kw_aload_n C d_Rows_restore_122 rfl ?_
        refine kw_iload C d_Rows_restore_123 rfl ?_
        refine kw_iload C d_Rows_restore_125 rfl ?_
        refine kw_iload C d_Rows_restore_127 rfl ?_
        refine kw_callVi (cl' := 0) (sl' := 0) (As := [.ref o1, .int x6, .int x22, .int x20]) C (c_Rows_guess hl n ids ht ho1 x6 x22 x20 σ23) mi_Rows_69 v_Rows_guess ⟨_, _, rfl⟩ ht ⟨Nat.le_of_ble_eq_true rfl, Nat.le_of_ble_eq_true rfl⟩ (Nat.le_of_ble_eq_true rfl) ⟨Nat.le_of_ble_eq_true rfl, Nat.le_of_ble_eq_true rfl⟩ ⟨rfl, rfl⟩ rfl d_Rows_restore_129 (fun x30 σ31 => ?_)
        refine kw_iadd C d_Rows_restore_132 ?_
        refine kw_sipush (v := 255) C d_Rows_restore_133 (by decide) ?_
        refine kw_iand C d_Rows_restore_136 ?_
        refine kw_iast C ho27 d_Rows_restore_137 (fun σ32 => ?_)
        refine kw_iincL (L2 := fun x33 => [some (.ref t), some (.ref r0), some (.ref r1), some (.ref o1), some (.int x6), some (.int x17), some (.int x20), some (.int x33)]) C d_Rows_restore_138 (by decide) rfl (fun _ => rfl) (fun x33 => ?_)
        refine kw_goto (tgt := 90) C d_Rows_restore_141 (by decide) ?_
        exact kw_wk (hk21 x33 σ32) ⟨Or.inr rfl, Or.inr rfl, Or.inr rfl, Or.inr rfl, Or.inr rfl, Or.inr rfl, Or.inr rfl, Or.inr rfl, trivial⟩
  · refine kw_aload_n C d_Rows_restore_17 rfl ?_
    refine kw_getR C fi_Rows_10 rfl rfl ht d_Rows_restore_18 (fun o34 ho34 => ?_)
    refine kw_aload_n C d_Rows_restore_21 rfl ?_
    refine kw_getR C fi_Rows_25 rfl rfl ho1 d_Rows_restore_22 (fun o35 ho35 => ?_)
    refine kw_iload C d_Rows_restore_25 rfl ?_
    refine kw_iald C (Or.inl ⟨ho35.1, ho35.2.1⟩) d_Rows_restore_27 ?_
    refine kw_leti (fun x36 => ?_)
    refine kw_iald C (Or.inl ⟨ho34.1, ho34.2.1⟩) d_Rows_restore_28 ?_
    refine kw_iconst (v := 5) C d_Rows_restore_29 (by decide) ?_
    refine kw_icmp_lt (tgt := 47) C d_Rows_restore_30 (by decide) ?_ ?_
    · refine kw_iincL (L2 := fun x37 => [some (.ref t), some (.ref r0), some (.ref r1), some (.ref o1), some (.int x37), none, none, none]) C d_Rows_restore_47 (by decide) rfl (fun _ => rfl) (fun x37 => ?_)
      refine kw_goto (tgt := 8) C d_Rows_restore_50 (by decide) ?_
      exact kw_wk (hk2 x37 σ4) ⟨Or.inr rfl, Or.inr rfl, Or.inr rfl, Or.inr rfl, Or.inr rfl, Or.inl rfl, Or.inl rfl, Or.inl rfl, trivial⟩
    · refine kw_aload_n C d_Rows_restore_33 rfl ?_
      refine kw_bipush (v := 30) C d_Rows_restore_34 (by decide) ?_
      refine kw_aload_n C d_Rows_restore_36 rfl ?_
      refine kw_getR C fi_Rows_25 rfl rfl ho1 d_Rows_restore_37 (fun o38 ho38 => ?_)
      refine kw_iload C d_Rows_restore_40 rfl ?_
      refine kw_iald C (Or.inl ⟨ho38.1, ho38.2.1⟩) d_Rows_restore_42 ?_
      refine kw_callVi (cl' := 0) (sl' := 0) (As := [.int 30, .int (gB σ4 o38 x3.toNatClampNeg)]) C (c_Fault_refuse hl n ids hr1 30 (gB σ4 o38 x3.toNatClampNeg) σ4) mi_Rows_100 v_Fault_refuse ⟨_, _, rfl⟩ hr1 ⟨Nat.le_of_ble_eq_true rfl, Nat.le_of_ble_eq_true rfl⟩ (Nat.le_of_ble_eq_true rfl) ⟨Nat.le_of_ble_eq_true rfl, Nat.le_of_ble_eq_true rfl⟩ ⟨rfl, rfl⟩ rfl d_Rows_restore_43 (fun x39 σ40 => ?_)
      exact kw_zret C Ce rfl (by simp) (fun _ _ => rfl) (Nat.le_of_ble_eq_true rfl) (Nat.le_of_ble_eq_true rfl) rfl d_Rows_restore_46
/-! PF_read -/
def rm_PF_read : Room := { frames := 6, cells := 0, slots := 0, locals := 152 }
def F_PF_read (n : Nat) (t : Nat) (σ : Mm) : Option (Int32 × Mm) :=
Option.bind (gR σ (64 * t + 1)) fun o1 =>
Option.bind (F_Fault_clear n o1 σ) fun σ2 =>
Option.bind (gR σ2 (64 * t + 2)) fun o3 =>
Option.bind (gR σ2 (64 * t + 7)) fun o4 =>
kf_c2 (F_Pieces_walk n o3 o4 σ2) fun x5 σ6 =>
kf_j (α := Int32) (fun x8 σ9 =>
if x8 = 0 then (
Option.bind (gR σ9 (64 * t + 1)) fun o15 =>
some (gS σ9 (64 * o15 + 1), σ9)) else (
Option.bind (gR σ9 (64 * t + 6)) fun o10 =>
Option.bind (gR σ9 (64 * t + 7)) fun o11 =>
kf_let (pR σ9 (64 * t + 6) (some o11)) fun σ12 =>
kf_let (pR σ12 (64 * t + 7) (some o10)) fun σ13 =>
kf_z 1 <| kf_let (pS σ13 (64 * t + 8) 1) fun σ14 =>
some (-1, σ14))) fun k7 =>
kf_j (α := Unit) (fun x17 σ18 =>
k7 0 σ18) fun k16 =>
if x5 = 0 then (
k16 () σ6) else (
Option.bind (gR σ6 (64 * t + 3)) fun o19 =>
Option.bind (gR σ6 (64 * t + 7)) fun o20 =>
Option.bind (gR σ6 (64 * o20 + 11)) fun o21 =>
kf_c2 (F_Unpacker_unpack n o19 (gS σ6 (64 * o21 + 1)) σ6) fun x22 σ23 =>
if x22 = 0 then (
k16 () σ23) else (
Option.bind (gR σ23 (64 * t + 4)) fun o24 =>
Option.bind (gR σ23 (64 * t + 7)) fun o25 =>
Option.bind (gR σ23 (64 * t + 1)) fun o26 =>
kf_c2 (F_Rows_restore n o24 o25 o26 σ23) fun x27 σ28 =>
if x27 = 0 then (
k16 () σ28) else (
k7 1 σ28)))
theorem d_PF_read_0 : decode prog_1_method_4_code 0 = .ok (.aload_n 0, 1) := by decide +kernel
theorem d_PF_read_1 : decode prog_1_method_4_code 1 = .ok (.getfield 19, 3) := by decide +kernel
theorem d_PF_read_4 : decode prog_1_method_4_code 4 = .ok (.invokevirtual 91, 3) := by decide +kernel
theorem d_PF_read_7 : decode prog_1_method_4_code 7 = .ok (.aload_n 0, 1) := by decide +kernel
theorem d_PF_read_8 : decode prog_1_method_4_code 8 = .ok (.getfield 40, 3) := by decide +kernel
theorem d_PF_read_11 : decode prog_1_method_4_code 11 = .ok (.aload_n 0, 1) := by decide +kernel
theorem d_PF_read_12 : decode prog_1_method_4_code 12 = .ok (.getfield 69, 3) := by decide +kernel
theorem d_PF_read_15 : decode prog_1_method_4_code 15 = .ok (.invokevirtual 94, 3) := by decide +kernel
theorem d_PF_read_18 : decode prog_1_method_4_code 18 = .ok (.ifCond .eq 45, 3) := by decide +kernel
theorem d_PF_read_21 : decode prog_1_method_4_code 21 = .ok (.aload_n 0, 1) := by decide +kernel
theorem d_PF_read_22 : decode prog_1_method_4_code 22 = .ok (.getfield 49, 3) := by decide +kernel
theorem d_PF_read_25 : decode prog_1_method_4_code 25 = .ok (.aload_n 0, 1) := by decide +kernel
theorem d_PF_read_26 : decode prog_1_method_4_code 26 = .ok (.getfield 69, 3) := by decide +kernel
theorem d_PF_read_29 : decode prog_1_method_4_code 29 = .ok (.getfield 98, 3) := by decide +kernel
theorem d_PF_read_32 : decode prog_1_method_4_code 32 = .ok (.getfield 102, 3) := by decide +kernel
theorem d_PF_read_35 : decode prog_1_method_4_code 35 = .ok (.invokevirtual 107, 3) := by decide +kernel
theorem d_PF_read_38 : decode prog_1_method_4_code 38 = .ok (.ifCond .eq 25, 3) := by decide +kernel
theorem d_PF_read_41 : decode prog_1_method_4_code 41 = .ok (.aload_n 0, 1) := by decide +kernel
theorem d_PF_read_42 : decode prog_1_method_4_code 42 = .ok (.getfield 26, 3) := by decide +kernel
theorem d_PF_read_45 : decode prog_1_method_4_code 45 = .ok (.aload_n 0, 1) := by decide +kernel
theorem d_PF_read_46 : decode prog_1_method_4_code 46 = .ok (.getfield 69, 3) := by decide +kernel
theorem d_PF_read_49 : decode prog_1_method_4_code 49 = .ok (.aload_n 0, 1) := by decide +kernel
theorem d_PF_read_50 : decode prog_1_method_4_code 50 = .ok (.getfield 19, 3) := by decide +kernel
theorem d_PF_read_53 : decode prog_1_method_4_code 53 = .ok (.invokevirtual 111, 3) := by decide +kernel
theorem d_PF_read_56 : decode prog_1_method_4_code 56 = .ok (.ifCond .eq 7, 3) := by decide +kernel
theorem d_PF_read_59 : decode prog_1_method_4_code 59 = .ok (.iconst 1, 1) := by decide +kernel
theorem d_PF_read_60 : decode prog_1_method_4_code 60 = .ok (.goto 4, 3) := by decide +kernel
theorem d_PF_read_63 : decode prog_1_method_4_code 63 = .ok (.iconst 0, 1) := by decide +kernel
theorem d_PF_read_64 : decode prog_1_method_4_code 64 = .ok (.istore_n 1, 1) := by decide +kernel
theorem d_PF_read_65 : decode prog_1_method_4_code 65 = .ok (.iload_n 1, 1) := by decide +kernel
theorem d_PF_read_66 : decode prog_1_method_4_code 66 = .ok (.ifCond .ne 11, 3) := by decide +kernel
theorem d_PF_read_69 : decode prog_1_method_4_code 69 = .ok (.aload_n 0, 1) := by decide +kernel
theorem d_PF_read_70 : decode prog_1_method_4_code 70 = .ok (.getfield 19, 3) := by decide +kernel
theorem d_PF_read_73 : decode prog_1_method_4_code 73 = .ok (.getfield 115, 3) := by decide +kernel
theorem d_PF_read_76 : decode prog_1_method_4_code 76 = .ok (.ireturn, 1) := by decide +kernel
theorem d_PF_read_77 : decode prog_1_method_4_code 77 = .ok (.aload_n 0, 1) := by decide +kernel
theorem d_PF_read_78 : decode prog_1_method_4_code 78 = .ok (.getfield 65, 3) := by decide +kernel
theorem d_PF_read_81 : decode prog_1_method_4_code 81 = .ok (.astore_n 2, 1) := by decide +kernel
theorem d_PF_read_82 : decode prog_1_method_4_code 82 = .ok (.aload_n 0, 1) := by decide +kernel
theorem d_PF_read_83 : decode prog_1_method_4_code 83 = .ok (.aload_n 0, 1) := by decide +kernel
theorem d_PF_read_84 : decode prog_1_method_4_code 84 = .ok (.getfield 69, 3) := by decide +kernel
theorem d_PF_read_87 : decode prog_1_method_4_code 87 = .ok (.putfield 65, 3) := by decide +kernel
theorem d_PF_read_90 : decode prog_1_method_4_code 90 = .ok (.aload_n 0, 1) := by decide +kernel
theorem d_PF_read_91 : decode prog_1_method_4_code 91 = .ok (.aload_n 2, 1) := by decide +kernel
theorem d_PF_read_92 : decode prog_1_method_4_code 92 = .ok (.putfield 69, 3) := by decide +kernel
theorem d_PF_read_95 : decode prog_1_method_4_code 95 = .ok (.aload_n 0, 1) := by decide +kernel
theorem d_PF_read_96 : decode prog_1_method_4_code 96 = .ok (.iconst 1, 1) := by decide +kernel
theorem d_PF_read_97 : decode prog_1_method_4_code 97 = .ok (.putfield 72, 3) := by decide +kernel
theorem d_PF_read_100 : decode prog_1_method_4_code 100 = .ok (.iconst (-1), 1) := by decide +kernel
theorem d_PF_read_101 : decode prog_1_method_4_code 101 = .ok (.ireturn, 1) := by decide +kernel
set_option maxRecDepth 100000 in
set_option maxHeartbeats 4000000 in
theorem c_PF_read {l0 : Launch} (hl : l0.stackTraces = false) (n : Nat) (ids : List Nat) {t : Nat} (ht : mm_ok ids t 1 0)  (σ : Mm) : kw_C l0 y_PF_read (Cond.code y_PF_read prog_1_method_4_code 3 (some .int) :: kw_Ts) rm_PF_read kw_oi ids [] [.ref t] σ (F_PF_read n t σ) := by
  refine kw_start (L0 := [some (.ref t), none, none]) hl (by decide +kernel) (Nat.le_of_ble_eq_true rfl) rfl (fun Γ ad C Ce => ?_)
  unfold F_PF_read
  refine kw_aload_n C d_PF_read_0 rfl ?_
  refine kw_getR C fi_PF_19 rfl rfl ht d_PF_read_1 (fun o1 ho1 => ?_)
  refine kw_callVv (cl' := 0) (sl' := 0) (As := []) C (c_Fault_clear hl n ids ho1  σ) mi_PF_91 v_Fault_clear ⟨_, _, rfl⟩ ho1 ⟨Nat.le_of_ble_eq_true rfl, Nat.le_of_ble_eq_true rfl⟩ (Nat.le_of_ble_eq_true rfl) ⟨Nat.le_of_ble_eq_true rfl, Nat.le_of_ble_eq_true rfl⟩ ⟨rfl, rfl⟩ rfl d_PF_read_4 (fun σ2 => ?_)
  refine kw_aload_n C d_PF_read_7 rfl ?_
  refine kw_getR C fi_PF_40 rfl rfl ht d_PF_read_8 (fun o3 ho3 => ?_)
  refine kw_aload_n C d_PF_read_11 rfl ?_
  refine kw_getR C fi_PF_69 rfl rfl ht d_PF_read_12 (fun o4 ho4 => ?_)
  refine kw_callVi (cl' := 0) (sl' := 0) (As := [.ref o4]) C (c_Pieces_walk hl n ids ho3 ho4  σ2) mi_PF_94 v_Pieces_walk ⟨_, _, rfl⟩ ho3 ⟨Nat.le_of_ble_eq_true rfl, Nat.le_of_ble_eq_true rfl⟩ (Nat.le_of_ble_eq_true rfl) ⟨Nat.le_of_ble_eq_true rfl, Nat.le_of_ble_eq_true rfl⟩ ⟨rfl, rfl⟩ rfl d_PF_read_15 (fun x5 σ6 => ?_)
  refine kw_j (α := Int32) (pcj := 64) (Lj := fun x8 => [some (.ref t), none, none]) (stj := fun x8 => [.int x8]) (fun x8 σ9 => ?_) (fun k7 hk7 => ?_)
  · refine kw_istore_n (L' := [some (.ref t), some (.int x8), none]) C d_PF_read_64 (by decide) rfl ?_
    refine kw_iload_n C d_PF_read_65 rfl ?_
    refine kw_if_ne (tgt := 77) C d_PF_read_66 (by decide) ?_ ?_
    · refine kw_aload_n C d_PF_read_77 rfl ?_
      refine kw_getR C fi_PF_65 rfl rfl ht d_PF_read_78 (fun o10 ho10 => ?_)
      refine kw_astore_n (L' := [some (.ref t), some (.int x8), some (.ref o10)]) C d_PF_read_81 (by decide) rfl ?_
      refine kw_aload_n C d_PF_read_82 rfl ?_
      refine kw_aload_n C d_PF_read_83 rfl ?_
      refine kw_getR C fi_PF_69 rfl rfl ht d_PF_read_84 (fun o11 ho11 => ?_)
      refine kw_putO C fi_PF_65 rfl rfl ht ho11 d_PF_read_87 (fun σ12 => ?_)
      refine kw_aload_n C d_PF_read_90 rfl ?_
      refine kw_aload_n C d_PF_read_91 rfl ?_
      refine kw_putO C fi_PF_69 rfl rfl ht ho10 d_PF_read_92 (fun σ13 => ?_)
      refine kw_aload_n C d_PF_read_95 rfl ?_
      refine kw_iconst (v := 1) C d_PF_read_96 (by decide) ?_
      refine kw_putZ C fi_PF_72 rfl ht d_PF_read_97 (fun σ14 => ?_)
      refine kw_iconst (v := -1) C d_PF_read_100 (by decide) ?_
      exact kw_iret C Ce rfl (by simp) (fun _ _ => rfl) (Nat.le_of_ble_eq_true rfl) (Nat.le_of_ble_eq_true rfl) rfl d_PF_read_101
    · refine kw_aload_n C d_PF_read_69 rfl ?_
      refine kw_getR C fi_PF_19 rfl rfl ht d_PF_read_70 (fun o15 ho15 => ?_)
      refine kw_getI C fi_PF_115 (Or.inl rfl) ho15 d_PF_read_73 ?_
      exact kw_iret C Ce rfl (by simp) (fun _ _ => rfl) (Nat.le_of_ble_eq_true rfl) (Nat.le_of_ble_eq_true rfl) rfl d_PF_read_76
  · refine kw_j (α := Unit) (pcj := 63) (Lj := fun x17 => [some (.ref t), none, none]) (stj := fun x17 => []) (fun x17 σ18 => ?_) (fun k16 hk16 => ?_)
    · refine kw_iconst (v := 0) C d_PF_read_63 (by decide) ?_
      exact kw_wk (hk7 0 σ18) ⟨Or.inr rfl, Or.inl rfl, Or.inl rfl, trivial⟩
    · refine kw_if_eq (tgt := 63) C d_PF_read_18 (by decide) ?_ ?_
      · exact kw_wk (hk16 () σ6) ⟨Or.inr rfl, Or.inl rfl, Or.inl rfl, trivial⟩
      · refine kw_aload_n C d_PF_read_21 rfl ?_
        refine kw_getR C fi_PF_49 rfl rfl ht d_PF_read_22 (fun o19 ho19 => ?_)
        refine kw_aload_n C d_PF_read_25 rfl ?_
        refine kw_getR C fi_PF_69 rfl rfl ht d_PF_read_26 (fun o20 ho20 => ?_)
        refine kw_getR C fi_PF_98 rfl rfl ho20 d_PF_read_29 (fun o21 ho21 => ?_)
        refine kw_getI C fi_PF_102 (Or.inl rfl) ho21 d_PF_read_32 ?_
        refine kw_callVi (cl' := 0) (sl' := 0) (As := [.int (gS σ6 (64 * o21 + 1))]) C (c_Unpacker_unpack hl n ids ho19 (gS σ6 (64 * o21 + 1)) σ6) mi_PF_107 v_Unpacker_unpack ⟨_, _, rfl⟩ ho19 ⟨Nat.le_of_ble_eq_true rfl, Nat.le_of_ble_eq_true rfl⟩ (Nat.le_of_ble_eq_true rfl) ⟨Nat.le_of_ble_eq_true rfl, Nat.le_of_ble_eq_true rfl⟩ ⟨rfl, rfl⟩ rfl d_PF_read_35 (fun x22 σ23 => ?_)
        refine kw_if_eq (tgt := 63) C d_PF_read_38 (by decide) ?_ ?_
        · exact kw_wk (hk16 () σ23) ⟨Or.inr rfl, Or.inl rfl, Or.inl rfl, trivial⟩
        · refine kw_aload_n C d_PF_read_41 rfl ?_
          refine kw_getR C fi_PF_26 rfl rfl ht d_PF_read_42 (fun o24 ho24 => ?_)
          refine kw_aload_n C d_PF_read_45 rfl ?_
          refine kw_getR C fi_PF_69 rfl rfl ht d_PF_read_46 (fun o25 ho25 => ?_)
          refine kw_aload_n C d_PF_read_49 rfl ?_
          refine kw_getR C fi_PF_19 rfl rfl ht d_PF_read_50 (fun o26 ho26 => ?_)
          refine kw_callVi (cl' := 0) (sl' := 0) (As := [.ref o25, .ref o26]) C (c_Rows_restore hl n ids ho24 ho25 ho26  σ23) mi_PF_111 v_Rows_restore ⟨_, _, rfl⟩ ho24 ⟨Nat.le_of_ble_eq_true rfl, Nat.le_of_ble_eq_true rfl⟩ (Nat.le_of_ble_eq_true rfl) ⟨Nat.le_of_ble_eq_true rfl, Nat.le_of_ble_eq_true rfl⟩ ⟨rfl, rfl⟩ rfl d_PF_read_53 (fun x27 σ28 => ?_)
          refine kw_if_eq (tgt := 63) C d_PF_read_56 (by decide) ?_ ?_
          · exact kw_wk (hk16 () σ28) ⟨Or.inr rfl, Or.inl rfl, Or.inl rfl, trivial⟩
          · refine kw_iconst (v := 1) C d_PF_read_59 (by decide) ?_
            refine kw_goto (tgt := 64) C d_PF_read_60 (by decide) ?_
            exact kw_wk (hk7 1 σ28) ⟨Or.inr rfl, Or.inl rfl, Or.inl rfl, trivial⟩
/-! PF_fault -/
def rm_PF_fault : Room := { frames := 0, cells := 0, slots := 0, locals := 0 }
def F_PF_fault (n : Nat) (t : Nat) (σ : Mm) : Option (Int32 × Mm) :=
Option.bind (gR σ (64 * t + 1)) fun o1 =>
some (gS σ (64 * o1 + 0), σ)
theorem d_PF_fault_0 : decode prog_1_method_5_code 0 = .ok (.aload_n 0, 1) := by decide +kernel
theorem d_PF_fault_1 : decode prog_1_method_5_code 1 = .ok (.getfield 19, 3) := by decide +kernel
theorem d_PF_fault_4 : decode prog_1_method_5_code 4 = .ok (.getfield 118, 3) := by decide +kernel
theorem d_PF_fault_7 : decode prog_1_method_5_code 7 = .ok (.ireturn, 1) := by decide +kernel
set_option maxRecDepth 100000 in
set_option maxHeartbeats 4000000 in
theorem c_PF_fault {l0 : Launch} (hl : l0.stackTraces = false) (n : Nat) (ids : List Nat) {t : Nat} (ht : mm_ok ids t 1 0)  (σ : Mm) : kw_C l0 y_PF_fault (Cond.code y_PF_fault prog_1_method_5_code 1 (some .int) :: kw_Ts) rm_PF_fault kw_oi ids [] [.ref t] σ (F_PF_fault n t σ) := by
  refine kw_start (L0 := [some (.ref t)]) hl (by decide +kernel) (Nat.le_of_ble_eq_true rfl) rfl (fun Γ ad C Ce => ?_)
  unfold F_PF_fault
  refine kw_aload_n C d_PF_fault_0 rfl ?_
  refine kw_getR C fi_PF_19 rfl rfl ht d_PF_fault_1 (fun o1 ho1 => ?_)
  refine kw_getI C fi_PF_118 (Or.inl rfl) ho1 d_PF_fault_4 ?_
  exact kw_iret C Ce rfl (by simp) (fun _ _ => rfl) (Nat.le_of_ble_eq_true rfl) (Nat.le_of_ble_eq_true rfl) rfl d_PF_fault_7
/-! Picture_isNumber -/
def rm_Picture_isNumber : Room := { frames := 0, cells := 0, slots := 0, locals := 0 }
def F_Picture_isNumber (n : Nat) (t : Nat) (a0 : Int32) (σ : Mm) : Option (Int32 × Mm) :=
kf_j (α := Int32) (fun x2 σ3 =>
kf_z x2 (some (x2, σ3))) fun k1 =>
kf_j (α := Unit) (fun x5 σ6 =>
k1 0 σ6) fun k4 =>
if a0 < 0 then (
k4 () σ) else (
if (1 <<< ((gS σ (64 * t + 3)) &&& 31)) ≤ a0 then (
k4 () σ) else (
k1 1 σ))
theorem d_Picture_isNumber_0 : decode prog_7_method_13_code 0 = .ok (.iload_n 1, 1) := by decide +kernel
theorem d_Picture_isNumber_1 : decode prog_7_method_13_code 1 = .ok (.ifCond .lt 17, 3) := by decide +kernel
theorem d_Picture_isNumber_4 : decode prog_7_method_13_code 4 = .ok (.iload_n 1, 1) := by decide +kernel
theorem d_Picture_isNumber_5 : decode prog_7_method_13_code 5 = .ok (.iconst 1, 1) := by decide +kernel
theorem d_Picture_isNumber_6 : decode prog_7_method_13_code 6 = .ok (.aload_n 0, 1) := by decide +kernel
theorem d_Picture_isNumber_7 : decode prog_7_method_13_code 7 = .ok (.getfield 40, 3) := by decide +kernel
theorem d_Picture_isNumber_10 : decode prog_7_method_13_code 10 = .ok (.ishl, 1) := by decide +kernel
theorem d_Picture_isNumber_11 : decode prog_7_method_13_code 11 = .ok (.if_icmp .ge 7, 3) := by decide +kernel
theorem d_Picture_isNumber_14 : decode prog_7_method_13_code 14 = .ok (.iconst 1, 1) := by decide +kernel
theorem d_Picture_isNumber_15 : decode prog_7_method_13_code 15 = .ok (.goto 4, 3) := by decide +kernel
theorem d_Picture_isNumber_18 : decode prog_7_method_13_code 18 = .ok (.iconst 0, 1) := by decide +kernel
theorem d_Picture_isNumber_19 : decode prog_7_method_13_code 19 = .ok (.ireturn, 1) := by decide +kernel
set_option maxRecDepth 100000 in
set_option maxHeartbeats 4000000 in
theorem c_Picture_isNumber {l0 : Launch} (hl : l0.stackTraces = false) (n : Nat) (ids : List Nat) {t : Nat} (ht : mm_ok ids t 1 10) (a0 : Int32) (σ : Mm) : kw_C l0 y_Picture_isNumber (Cond.code y_Picture_isNumber prog_7_method_13_code 2 (some .boolean) :: kw_Ts) rm_Picture_isNumber kw_oi ids [] [.ref t, .int a0] σ (F_Picture_isNumber n t a0 σ) := by
  refine kw_start (L0 := [some (.ref t), some (.int a0)]) hl (by decide +kernel) (Nat.le_of_ble_eq_true rfl) rfl (fun Γ ad C Ce => ?_)
  unfold F_Picture_isNumber
  refine kw_iload_n C d_Picture_isNumber_0 rfl ?_
  refine kw_j (α := Int32) (pcj := 19) (Lj := fun x2 => [none, none]) (stj := fun x2 => [.int x2]) (fun x2 σ3 => ?_) (fun k1 hk1 => ?_)
  · exact kw_zret C Ce rfl (by simp) (fun _ _ => rfl) (Nat.le_of_ble_eq_true rfl) (Nat.le_of_ble_eq_true rfl) rfl d_Picture_isNumber_19
  · refine kw_j (α := Unit) (pcj := 18) (Lj := fun x5 => [none, none]) (stj := fun x5 => []) (fun x5 σ6 => ?_) (fun k4 hk4 => ?_)
    · refine kw_iconst (v := 0) C d_Picture_isNumber_18 (by decide) ?_
      exact kw_wk (hk1 0 σ6) ⟨Or.inl rfl, Or.inl rfl, trivial⟩
    · refine kw_if_lt (tgt := 18) C d_Picture_isNumber_1 (by decide) ?_ ?_
      · exact kw_wk (hk4 () σ) ⟨Or.inl rfl, Or.inl rfl, trivial⟩
      · refine kw_iload_n C d_Picture_isNumber_4 rfl ?_
        refine kw_iconst (v := 1) C d_Picture_isNumber_5 (by decide) ?_
        refine kw_aload_n C d_Picture_isNumber_6 rfl ?_
        refine kw_getI C fi_Picture_40 (Or.inl rfl) ht d_Picture_isNumber_7 ?_
        refine kw_ishl C d_Picture_isNumber_10 ?_
        refine kw_icmp_ge (tgt := 18) C d_Picture_isNumber_11 (by decide) ?_ ?_
        · exact kw_wk (hk4 () σ) ⟨Or.inl rfl, Or.inl rfl, trivial⟩
        · refine kw_iconst (v := 1) C d_Picture_isNumber_14 (by decide) ?_
          refine kw_goto (tgt := 19) C d_Picture_isNumber_15 (by decide) ?_
          exact kw_wk (hk1 1 σ) ⟨Or.inl rfl, Or.inl rfl, trivial⟩
/-! Picture_letsValue -/
def rm_Picture_letsValue : Room := { frames := 1, cells := 0, slots := 0, locals := 21 }
def F_Picture_letsValue (n : Nat) (t : Nat) (a0 : Int32) (σ : Mm) : Option (Int32 × Mm) :=
kf_c2 (F_Picture_isNumber n t a0 σ) fun x1 σ2 =>
kf_j (α := Int32) (fun x4 σ5 =>
kf_z x4 (some (x4, σ5))) fun k3 =>
kf_j (α := Unit) (fun x7 σ8 =>
k3 0 σ8) fun k6 =>
if x1 = 0 then (
k6 () σ2) else (
kf_j (α := Unit) (fun x10 σ11 =>
k3 1 σ11) fun k9 =>
if (gS σ2 (64 * t + 2)) = 3 then (
if (gS σ2 (64 * t + 6)) ≤ a0 then (
k6 () σ2) else (
k9 () σ2)) else (
k9 () σ2))
theorem d_Picture_letsValue_0 : decode prog_7_method_11_code 0 = .ok (.aload_n 0, 1) := by decide +kernel
theorem d_Picture_letsValue_1 : decode prog_7_method_11_code 1 = .ok (.iload_n 1, 1) := by decide +kernel
theorem d_Picture_letsValue_2 : decode prog_7_method_11_code 2 = .ok (.invokevirtual 64, 3) := by decide +kernel
theorem d_Picture_letsValue_5 : decode prog_7_method_11_code 5 = .ok (.ifCond .eq 23, 3) := by decide +kernel
theorem d_Picture_letsValue_8 : decode prog_7_method_11_code 8 = .ok (.aload_n 0, 1) := by decide +kernel
theorem d_Picture_letsValue_9 : decode prog_7_method_11_code 9 = .ok (.getfield 37, 3) := by decide +kernel
theorem d_Picture_letsValue_12 : decode prog_7_method_11_code 12 = .ok (.iconst 3, 1) := by decide +kernel
theorem d_Picture_letsValue_13 : decode prog_7_method_11_code 13 = .ok (.if_icmp .ne 11, 3) := by decide +kernel
theorem d_Picture_letsValue_16 : decode prog_7_method_11_code 16 = .ok (.iload_n 1, 1) := by decide +kernel
theorem d_Picture_letsValue_17 : decode prog_7_method_11_code 17 = .ok (.aload_n 0, 1) := by decide +kernel
theorem d_Picture_letsValue_18 : decode prog_7_method_11_code 18 = .ok (.getfield 54, 3) := by decide +kernel
theorem d_Picture_letsValue_21 : decode prog_7_method_11_code 21 = .ok (.if_icmp .ge 7, 3) := by decide +kernel
theorem d_Picture_letsValue_24 : decode prog_7_method_11_code 24 = .ok (.iconst 1, 1) := by decide +kernel
theorem d_Picture_letsValue_25 : decode prog_7_method_11_code 25 = .ok (.goto 4, 3) := by decide +kernel
theorem d_Picture_letsValue_28 : decode prog_7_method_11_code 28 = .ok (.iconst 0, 1) := by decide +kernel
theorem d_Picture_letsValue_29 : decode prog_7_method_11_code 29 = .ok (.ireturn, 1) := by decide +kernel
set_option maxRecDepth 100000 in
set_option maxHeartbeats 4000000 in
theorem c_Picture_letsValue {l0 : Launch} (hl : l0.stackTraces = false) (n : Nat) (ids : List Nat) {t : Nat} (ht : mm_ok ids t 1 10) (a0 : Int32) (σ : Mm) : kw_C l0 y_Picture_letsValue (Cond.code y_Picture_letsValue prog_7_method_11_code 2 (some .boolean) :: kw_Ts) rm_Picture_letsValue kw_oi ids [] [.ref t, .int a0] σ (F_Picture_letsValue n t a0 σ) := by
  refine kw_start (L0 := [some (.ref t), some (.int a0)]) hl (by decide +kernel) (Nat.le_of_ble_eq_true rfl) rfl (fun Γ ad C Ce => ?_)
  unfold F_Picture_letsValue
  refine kw_aload_n C d_Picture_letsValue_0 rfl ?_
  refine kw_iload_n C d_Picture_letsValue_1 rfl ?_
  refine kw_callVi (cl' := 0) (sl' := 0) (As := [.int a0]) C (c_Picture_isNumber hl n ids ht a0 σ) mi_Picture_64 v_Picture_isNumber ⟨_, _, rfl⟩ ht ⟨Nat.le_of_ble_eq_true rfl, Nat.le_of_ble_eq_true rfl⟩ (Nat.le_of_ble_eq_true rfl) ⟨Nat.le_of_ble_eq_true rfl, Nat.le_of_ble_eq_true rfl⟩ ⟨rfl, rfl⟩ rfl d_Picture_letsValue_2 (fun x1 σ2 => ?_)
  refine kw_j (α := Int32) (pcj := 29) (Lj := fun x4 => [none, none]) (stj := fun x4 => [.int x4]) (fun x4 σ5 => ?_) (fun k3 hk3 => ?_)
  · exact kw_zret C Ce rfl (by simp) (fun _ _ => rfl) (Nat.le_of_ble_eq_true rfl) (Nat.le_of_ble_eq_true rfl) rfl d_Picture_letsValue_29
  · refine kw_j (α := Unit) (pcj := 28) (Lj := fun x7 => [none, none]) (stj := fun x7 => []) (fun x7 σ8 => ?_) (fun k6 hk6 => ?_)
    · refine kw_iconst (v := 0) C d_Picture_letsValue_28 (by decide) ?_
      exact kw_wk (hk3 0 σ8) ⟨Or.inl rfl, Or.inl rfl, trivial⟩
    · refine kw_if_eq (tgt := 28) C d_Picture_letsValue_5 (by decide) ?_ ?_
      · exact kw_wk (hk6 () σ2) ⟨Or.inl rfl, Or.inl rfl, trivial⟩
      · refine kw_aload_n C d_Picture_letsValue_8 rfl ?_
        refine kw_getI C fi_Picture_37 (Or.inl rfl) ht d_Picture_letsValue_9 ?_
        refine kw_iconst (v := 3) C d_Picture_letsValue_12 (by decide) ?_
        refine kw_j (α := Unit) (pcj := 24) (Lj := fun x10 => [none, none]) (stj := fun x10 => []) (fun x10 σ11 => ?_) (fun k9 hk9 => ?_)
        · refine kw_iconst (v := 1) C d_Picture_letsValue_24 (by decide) ?_
          refine kw_goto (tgt := 29) C d_Picture_letsValue_25 (by decide) ?_
          exact kw_wk (hk3 1 σ11) ⟨Or.inl rfl, Or.inl rfl, trivial⟩
        · refine kw_icmp_ne (tgt := 24) C d_Picture_letsValue_13 (by decide) ?_ ?_
          · exact kw_wk (hk9 () σ2) ⟨Or.inl rfl, Or.inl rfl, trivial⟩
          · refine kw_iload_n C d_Picture_letsValue_16 rfl ?_
            refine kw_aload_n C d_Picture_letsValue_17 rfl ?_
            refine kw_getI C fi_Picture_54 (Or.inl rfl) ht d_Picture_letsValue_18 ?_
            refine kw_icmp_ge (tgt := 28) C d_Picture_letsValue_21 (by decide) ?_ ?_
            · exact kw_wk (hk6 () σ2) ⟨Or.inl rfl, Or.inl rfl, trivial⟩
            · exact kw_wk (hk9 () σ2) ⟨Or.inl rfl, Or.inl rfl, trivial⟩
/-! Picture_letsThin -/
def rm_Picture_letsThin : Room := { frames := 1, cells := 0, slots := 0, locals := 21 }
def F_Picture_letsThin (n : Nat) (t : Nat) (a0 : Int32) (a1 : Int32) (a2 : Int32) (σ : Mm) : Option (Int32 × Mm) :=
if (gS σ (64 * t + 2)) = 0 then (
kf_c2 (F_Picture_isNumber n t a0 σ) fun x1 σ2 =>
kf_j (α := Int32) (fun x4 σ5 =>
kf_z x4 (some (x4, σ5))) fun k3 =>
kf_j (α := Unit) (fun x7 σ8 =>
k3 0 σ8) fun k6 =>
if x1 = 0 then (
k6 () σ2) else (
if a0 = a1 then (
if a0 = a2 then (
k3 1 σ2) else (
k6 () σ2)) else (
k6 () σ2))) else (
if (gS σ (64 * t + 2)) = 1 then (
kf_z 0 (some (0, σ))) else (
if (gS σ (64 * t + 2)) = 2 then (
kf_c2 (F_Picture_isNumber n t a0 σ) fun x11 σ12 =>
kf_j (α := Int32) (fun x14 σ15 =>
kf_z x14 (some (x14, σ15))) fun k13 =>
kf_j (α := Unit) (fun x17 σ18 =>
k13 0 σ18) fun k16 =>
if x11 = 0 then (
k16 () σ12) else (
kf_c2 (F_Picture_isNumber n t a1 σ12) fun x19 σ20 =>
if x19 = 0 then (
k16 () σ20) else (
kf_c2 (F_Picture_isNumber n t a2 σ20) fun x21 σ22 =>
if x21 = 0 then (
k16 () σ22) else (
k13 1 σ22)))) else (
if (gS σ (64 * t + 2)) = 3 then (
kf_j (α := Int32) (fun x25 σ26 =>
kf_z x25 (some (x25, σ26))) fun k24 =>
kf_j (α := Unit) (fun x28 σ29 =>
k24 0 σ29) fun k27 =>
if a0 < 0 then (
k27 () σ) else (
if 255 < a0 then (
k27 () σ) else (
k24 1 σ))) else (
kf_z 0 (some (0, σ))))))
theorem d_Picture_letsThin_0 : decode prog_7_method_12_code 0 = .ok (.aload_n 0, 1) := by decide +kernel
theorem d_Picture_letsThin_1 : decode prog_7_method_12_code 1 = .ok (.getfield 37, 3) := by decide +kernel
theorem d_Picture_letsThin_4 : decode prog_7_method_12_code 4 = .ok (.tableswitch 103 0 3 #[32, 103, 56, 86], 32) := by decide +kernel
theorem d_Picture_letsThin_36 : decode prog_7_method_12_code 36 = .ok (.aload_n 0, 1) := by decide +kernel
theorem d_Picture_letsThin_37 : decode prog_7_method_12_code 37 = .ok (.iload_n 1, 1) := by decide +kernel
theorem d_Picture_letsThin_38 : decode prog_7_method_12_code 38 = .ok (.invokevirtual 64, 3) := by decide +kernel
theorem d_Picture_letsThin_41 : decode prog_7_method_12_code 41 = .ok (.ifCond .eq 17, 3) := by decide +kernel
theorem d_Picture_letsThin_44 : decode prog_7_method_12_code 44 = .ok (.iload_n 1, 1) := by decide +kernel
theorem d_Picture_letsThin_45 : decode prog_7_method_12_code 45 = .ok (.iload_n 2, 1) := by decide +kernel
theorem d_Picture_letsThin_46 : decode prog_7_method_12_code 46 = .ok (.if_icmp .ne 12, 3) := by decide +kernel
theorem d_Picture_letsThin_49 : decode prog_7_method_12_code 49 = .ok (.iload_n 1, 1) := by decide +kernel
theorem d_Picture_letsThin_50 : decode prog_7_method_12_code 50 = .ok (.iload_n 3, 1) := by decide +kernel
theorem d_Picture_letsThin_51 : decode prog_7_method_12_code 51 = .ok (.if_icmp .ne 7, 3) := by decide +kernel
theorem d_Picture_letsThin_54 : decode prog_7_method_12_code 54 = .ok (.iconst 1, 1) := by decide +kernel
theorem d_Picture_letsThin_55 : decode prog_7_method_12_code 55 = .ok (.goto 4, 3) := by decide +kernel
theorem d_Picture_letsThin_58 : decode prog_7_method_12_code 58 = .ok (.iconst 0, 1) := by decide +kernel
theorem d_Picture_letsThin_59 : decode prog_7_method_12_code 59 = .ok (.ireturn, 1) := by decide +kernel
theorem d_Picture_letsThin_60 : decode prog_7_method_12_code 60 = .ok (.aload_n 0, 1) := by decide +kernel
theorem d_Picture_letsThin_61 : decode prog_7_method_12_code 61 = .ok (.iload_n 1, 1) := by decide +kernel
theorem d_Picture_letsThin_62 : decode prog_7_method_12_code 62 = .ok (.invokevirtual 64, 3) := by decide +kernel
theorem d_Picture_letsThin_65 : decode prog_7_method_12_code 65 = .ok (.ifCond .eq 23, 3) := by decide +kernel
theorem d_Picture_letsThin_68 : decode prog_7_method_12_code 68 = .ok (.aload_n 0, 1) := by decide +kernel
theorem d_Picture_letsThin_69 : decode prog_7_method_12_code 69 = .ok (.iload_n 2, 1) := by decide +kernel
theorem d_Picture_letsThin_70 : decode prog_7_method_12_code 70 = .ok (.invokevirtual 64, 3) := by decide +kernel
theorem d_Picture_letsThin_73 : decode prog_7_method_12_code 73 = .ok (.ifCond .eq 15, 3) := by decide +kernel
theorem d_Picture_letsThin_76 : decode prog_7_method_12_code 76 = .ok (.aload_n 0, 1) := by decide +kernel
theorem d_Picture_letsThin_77 : decode prog_7_method_12_code 77 = .ok (.iload_n 3, 1) := by decide +kernel
theorem d_Picture_letsThin_78 : decode prog_7_method_12_code 78 = .ok (.invokevirtual 64, 3) := by decide +kernel
theorem d_Picture_letsThin_81 : decode prog_7_method_12_code 81 = .ok (.ifCond .eq 7, 3) := by decide +kernel
theorem d_Picture_letsThin_84 : decode prog_7_method_12_code 84 = .ok (.iconst 1, 1) := by decide +kernel
theorem d_Picture_letsThin_85 : decode prog_7_method_12_code 85 = .ok (.goto 4, 3) := by decide +kernel
theorem d_Picture_letsThin_88 : decode prog_7_method_12_code 88 = .ok (.iconst 0, 1) := by decide +kernel
theorem d_Picture_letsThin_89 : decode prog_7_method_12_code 89 = .ok (.ireturn, 1) := by decide +kernel
theorem d_Picture_letsThin_90 : decode prog_7_method_12_code 90 = .ok (.iload_n 1, 1) := by decide +kernel
theorem d_Picture_letsThin_91 : decode prog_7_method_12_code 91 = .ok (.ifCond .lt 14, 3) := by decide +kernel
theorem d_Picture_letsThin_94 : decode prog_7_method_12_code 94 = .ok (.iload_n 1, 1) := by decide +kernel
theorem d_Picture_letsThin_95 : decode prog_7_method_12_code 95 = .ok (.sipush 255, 3) := by decide +kernel
theorem d_Picture_letsThin_98 : decode prog_7_method_12_code 98 = .ok (.if_icmp .gt 7, 3) := by decide +kernel
theorem d_Picture_letsThin_101 : decode prog_7_method_12_code 101 = .ok (.iconst 1, 1) := by decide +kernel
theorem d_Picture_letsThin_102 : decode prog_7_method_12_code 102 = .ok (.goto 4, 3) := by decide +kernel
theorem d_Picture_letsThin_105 : decode prog_7_method_12_code 105 = .ok (.iconst 0, 1) := by decide +kernel
theorem d_Picture_letsThin_106 : decode prog_7_method_12_code 106 = .ok (.ireturn, 1) := by decide +kernel
theorem d_Picture_letsThin_107 : decode prog_7_method_12_code 107 = .ok (.iconst 0, 1) := by decide +kernel
theorem d_Picture_letsThin_108 : decode prog_7_method_12_code 108 = .ok (.ireturn, 1) := by decide +kernel
set_option maxRecDepth 100000 in
set_option maxHeartbeats 4000000 in
theorem c_Picture_letsThin {l0 : Launch} (hl : l0.stackTraces = false) (n : Nat) (ids : List Nat) {t : Nat} (ht : mm_ok ids t 1 10) (a0 : Int32) (a1 : Int32) (a2 : Int32) (σ : Mm) : kw_C l0 y_Picture_letsThin (Cond.code y_Picture_letsThin prog_7_method_12_code 4 (some .boolean) :: kw_Ts) rm_Picture_letsThin kw_oi ids [] [.ref t, .int a0, .int a1, .int a2] σ (F_Picture_letsThin n t a0 a1 a2 σ) := by
  refine kw_start (L0 := [some (.ref t), some (.int a0), some (.int a1), some (.int a2)]) hl (by decide +kernel) (Nat.le_of_ble_eq_true rfl) rfl (fun Γ ad C Ce => ?_)
  unfold F_Picture_letsThin
  refine kw_aload_n C d_Picture_letsThin_0 rfl ?_
  refine kw_getI C fi_Picture_37 (Or.inl rfl) ht d_Picture_letsThin_1 ?_
  refine kw_sw ?_ (fun hn9 => ?_)
  · refine kw_tsIn (off := 32) (tgt := 36) C d_Picture_letsThin_4 (by decide) (by decide) (by decide) (by decide) ?_
    refine kw_aload_n C d_Picture_letsThin_36 rfl ?_
    refine kw_iload_n C d_Picture_letsThin_37 rfl ?_
    refine kw_callVi (cl' := 0) (sl' := 0) (As := [.int a0]) C (c_Picture_isNumber hl n ids ht a0 σ) mi_Picture_64 v_Picture_isNumber ⟨_, _, rfl⟩ ht ⟨Nat.le_of_ble_eq_true rfl, Nat.le_of_ble_eq_true rfl⟩ (Nat.le_of_ble_eq_true rfl) ⟨Nat.le_of_ble_eq_true rfl, Nat.le_of_ble_eq_true rfl⟩ ⟨rfl, rfl⟩ rfl d_Picture_letsThin_38 (fun x1 σ2 => ?_)
    refine kw_j (α := Int32) (pcj := 59) (Lj := fun x4 => [none, none, none, none]) (stj := fun x4 => [.int x4]) (fun x4 σ5 => ?_) (fun k3 hk3 => ?_)
    · exact kw_zret C Ce rfl (by simp) (fun _ _ => rfl) (Nat.le_of_ble_eq_true rfl) (Nat.le_of_ble_eq_true rfl) rfl d_Picture_letsThin_59
    · refine kw_j (α := Unit) (pcj := 58) (Lj := fun x7 => [none, none, none, none]) (stj := fun x7 => []) (fun x7 σ8 => ?_) (fun k6 hk6 => ?_)
      · refine kw_iconst (v := 0) C d_Picture_letsThin_58 (by decide) ?_
        exact kw_wk (hk3 0 σ8) ⟨Or.inl rfl, Or.inl rfl, Or.inl rfl, Or.inl rfl, trivial⟩
      · refine kw_if_eq (tgt := 58) C d_Picture_letsThin_41 (by decide) ?_ ?_
        · exact kw_wk (hk6 () σ2) ⟨Or.inl rfl, Or.inl rfl, Or.inl rfl, Or.inl rfl, trivial⟩
        · refine kw_iload_n C d_Picture_letsThin_44 rfl ?_
          refine kw_iload_n C d_Picture_letsThin_45 rfl ?_
          refine kw_icmp_ne (tgt := 58) C d_Picture_letsThin_46 (by decide) ?_ ?_
          · exact kw_wk (hk6 () σ2) ⟨Or.inl rfl, Or.inl rfl, Or.inl rfl, Or.inl rfl, trivial⟩
          · refine kw_iload_n C d_Picture_letsThin_49 rfl ?_
            refine kw_iload_n C d_Picture_letsThin_50 rfl ?_
            refine kw_icmp_ne (tgt := 58) C d_Picture_letsThin_51 (by decide) ?_ ?_
            · exact kw_wk (hk6 () σ2) ⟨Or.inl rfl, Or.inl rfl, Or.inl rfl, Or.inl rfl, trivial⟩
            · refine kw_iconst (v := 1) C d_Picture_letsThin_54 (by decide) ?_
              refine kw_goto (tgt := 59) C d_Picture_letsThin_55 (by decide) ?_
              exact kw_wk (hk3 1 σ2) ⟨Or.inl rfl, Or.inl rfl, Or.inl rfl, Or.inl rfl, trivial⟩
  refine kw_sw ?_ (fun hn10 => ?_)
  · refine kw_tsIn (off := 103) (tgt := 107) C d_Picture_letsThin_4 (by decide) (by decide) (by decide) (by decide) ?_
    refine kw_iconst (v := 0) C d_Picture_letsThin_107 (by decide) ?_
    exact kw_zret C Ce rfl (by simp) (fun _ _ => rfl) (Nat.le_of_ble_eq_true rfl) (Nat.le_of_ble_eq_true rfl) rfl d_Picture_letsThin_108
  refine kw_sw ?_ (fun hn23 => ?_)
  · refine kw_tsIn (off := 56) (tgt := 60) C d_Picture_letsThin_4 (by decide) (by decide) (by decide) (by decide) ?_
    refine kw_aload_n C d_Picture_letsThin_60 rfl ?_
    refine kw_iload_n C d_Picture_letsThin_61 rfl ?_
    refine kw_callVi (cl' := 0) (sl' := 0) (As := [.int a0]) C (c_Picture_isNumber hl n ids ht a0 σ) mi_Picture_64 v_Picture_isNumber ⟨_, _, rfl⟩ ht ⟨Nat.le_of_ble_eq_true rfl, Nat.le_of_ble_eq_true rfl⟩ (Nat.le_of_ble_eq_true rfl) ⟨Nat.le_of_ble_eq_true rfl, Nat.le_of_ble_eq_true rfl⟩ ⟨rfl, rfl⟩ rfl d_Picture_letsThin_62 (fun x11 σ12 => ?_)
    refine kw_j (α := Int32) (pcj := 89) (Lj := fun x14 => [none, none, none, none]) (stj := fun x14 => [.int x14]) (fun x14 σ15 => ?_) (fun k13 hk13 => ?_)
    · exact kw_zret C Ce rfl (by simp) (fun _ _ => rfl) (Nat.le_of_ble_eq_true rfl) (Nat.le_of_ble_eq_true rfl) rfl d_Picture_letsThin_89
    · refine kw_j (α := Unit) (pcj := 88) (Lj := fun x17 => [none, none, none, none]) (stj := fun x17 => []) (fun x17 σ18 => ?_) (fun k16 hk16 => ?_)
      · refine kw_iconst (v := 0) C d_Picture_letsThin_88 (by decide) ?_
        exact kw_wk (hk13 0 σ18) ⟨Or.inl rfl, Or.inl rfl, Or.inl rfl, Or.inl rfl, trivial⟩
      · refine kw_if_eq (tgt := 88) C d_Picture_letsThin_65 (by decide) ?_ ?_
        · exact kw_wk (hk16 () σ12) ⟨Or.inl rfl, Or.inl rfl, Or.inl rfl, Or.inl rfl, trivial⟩
        · refine kw_aload_n C d_Picture_letsThin_68 rfl ?_
          refine kw_iload_n C d_Picture_letsThin_69 rfl ?_
          refine kw_callVi (cl' := 0) (sl' := 0) (As := [.int a1]) C (c_Picture_isNumber hl n ids ht a1 σ12) mi_Picture_64 v_Picture_isNumber ⟨_, _, rfl⟩ ht ⟨Nat.le_of_ble_eq_true rfl, Nat.le_of_ble_eq_true rfl⟩ (Nat.le_of_ble_eq_true rfl) ⟨Nat.le_of_ble_eq_true rfl, Nat.le_of_ble_eq_true rfl⟩ ⟨rfl, rfl⟩ rfl d_Picture_letsThin_70 (fun x19 σ20 => ?_)
          refine kw_if_eq (tgt := 88) C d_Picture_letsThin_73 (by decide) ?_ ?_
          · exact kw_wk (hk16 () σ20) ⟨Or.inl rfl, Or.inl rfl, Or.inl rfl, Or.inl rfl, trivial⟩
          · refine kw_aload_n C d_Picture_letsThin_76 rfl ?_
            refine kw_iload_n C d_Picture_letsThin_77 rfl ?_
            refine kw_callVi (cl' := 0) (sl' := 0) (As := [.int a2]) C (c_Picture_isNumber hl n ids ht a2 σ20) mi_Picture_64 v_Picture_isNumber ⟨_, _, rfl⟩ ht ⟨Nat.le_of_ble_eq_true rfl, Nat.le_of_ble_eq_true rfl⟩ (Nat.le_of_ble_eq_true rfl) ⟨Nat.le_of_ble_eq_true rfl, Nat.le_of_ble_eq_true rfl⟩ ⟨rfl, rfl⟩ rfl d_Picture_letsThin_78 (fun x21 σ22 => ?_)
            refine kw_if_eq (tgt := 88) C d_Picture_letsThin_81 (by decide) ?_ ?_
            · exact kw_wk (hk16 () σ22) ⟨Or.inl rfl, Or.inl rfl, Or.inl rfl, Or.inl rfl, trivial⟩
            · refine kw_iconst (v := 1) C d_Picture_letsThin_84 (by decide) ?_
              refine kw_goto (tgt := 89) C d_Picture_letsThin_85 (by decide) ?_
              exact kw_wk (hk13 1 σ22) ⟨Or.inl rfl, Or.inl rfl, Or.inl rfl, Or.inl rfl, trivial⟩
  refine kw_sw ?_ (fun hn30 => ?_)
  · refine kw_tsIn (off := 86) (tgt := 90) C d_Picture_letsThin_4 (by decide) (by decide) (by decide) (by decide) ?_
    refine kw_iload_n C d_Picture_letsThin_90 rfl ?_
    refine kw_j (α := Int32) (pcj := 106) (Lj := fun x25 => [none, none, none, none]) (stj := fun x25 => [.int x25]) (fun x25 σ26 => ?_) (fun k24 hk24 => ?_)
    · exact kw_zret C Ce rfl (by simp) (fun _ _ => rfl) (Nat.le_of_ble_eq_true rfl) (Nat.le_of_ble_eq_true rfl) rfl d_Picture_letsThin_106
    · refine kw_j (α := Unit) (pcj := 105) (Lj := fun x28 => [none, none, none, none]) (stj := fun x28 => []) (fun x28 σ29 => ?_) (fun k27 hk27 => ?_)
      · refine kw_iconst (v := 0) C d_Picture_letsThin_105 (by decide) ?_
        exact kw_wk (hk24 0 σ29) ⟨Or.inl rfl, Or.inl rfl, Or.inl rfl, Or.inl rfl, trivial⟩
      · refine kw_if_lt (tgt := 105) C d_Picture_letsThin_91 (by decide) ?_ ?_
        · exact kw_wk (hk27 () σ) ⟨Or.inl rfl, Or.inl rfl, Or.inl rfl, Or.inl rfl, trivial⟩
        · refine kw_iload_n C d_Picture_letsThin_94 rfl ?_
          refine kw_sipush (v := 255) C d_Picture_letsThin_95 (by decide) ?_
          refine kw_icmp_gt (tgt := 105) C d_Picture_letsThin_98 (by decide) ?_ ?_
          · exact kw_wk (hk27 () σ) ⟨Or.inl rfl, Or.inl rfl, Or.inl rfl, Or.inl rfl, trivial⟩
          · refine kw_iconst (v := 1) C d_Picture_letsThin_101 (by decide) ?_
            refine kw_goto (tgt := 106) C d_Picture_letsThin_102 (by decide) ?_
            exact kw_wk (hk24 1 σ) ⟨Or.inl rfl, Or.inl rfl, Or.inl rfl, Or.inl rfl, trivial⟩
  · refine kw_tsOut (tgt := 107) C d_Picture_letsThin_4 (kw_tso (lo := 0) (hi := 3) (gS σ (64 * t + 2)) (fun k h1 h2 => by rcases (show k = 0 ∨ k = 1 ∨ k = 2 ∨ k = 3 by omega) with rfl | rfl | rfl | rfl; exact kw_ni hn9 (by decide); exact kw_ni hn10 (by decide); exact kw_ni hn23 (by decide); exact kw_ni hn30 (by decide))) (by decide) ?_
    refine kw_iconst (v := 0) C d_Picture_letsThin_107 (by decide) ?_
    exact kw_zret C Ce rfl (by simp) (fun _ _ => rfl) (Nat.le_of_ble_eq_true rfl) (Nat.le_of_ble_eq_true rfl) rfl d_Picture_letsThin_108
/-! Rows_putSample -/
def rm_Rows_putSample : Room := { frames := 0, cells := 0, slots := 0, locals := 0 }
def F_Rows_putSample (n : Nat) (t : Nat) (a0 : Int32) (a1 : Int32) (a2 : Int32) (a3 : Int32) (σ : Mm) : Option (Mm) :=
if a2 = 16 then (
Option.bind (gR σ (64 * t + 1)) fun o5 =>
kf_in (a0 + (2 * a1)) (mm_kd o5).2.2 <| kf_let (pB σ o5 (a0 + (2 * a1)).toNatClampNeg (a3 >>> (8 &&& 31))) fun σ6 =>
Option.bind (gR σ6 (64 * t + 1)) fun o7 =>
kf_in ((a0 + (2 * a1)) + 1) (mm_kd o7).2.2 <| kf_let (pB σ6 o7 ((a0 + (2 * a1)) + 1).toNatClampNeg (a3 &&& 255)) fun σ8 =>
some σ8) else (
kf_let (a1 * a2 : Int32) fun x1 =>
Option.bind (gR σ (64 * t + 1)) fun o2 =>
kf_nz 8 <|
kf_let (a0 + (x1 / 8) : Int32) fun x3 =>
kf_in x3 (mm_kd o2).2.2 <|
kf_nz 8 <|
kf_in x3 (mm_kd o2).2.2 <| kf_let (pB σ o2 x3.toNatClampNeg ((gB σ o2 x3.toNatClampNeg) ||| (a3 <<< (((8 - a2) - (x1 - x1 / 8 * 8)) &&& 31)))) fun σ4 =>
some σ4)
theorem d_Rows_putSample_0 : decode prog_9_method_3_code 0 = .ok (.iload_n 3, 1) := by decide +kernel
theorem d_Rows_putSample_1 : decode prog_9_method_3_code 1 = .ok (.bipush 16, 2) := by decide +kernel
theorem d_Rows_putSample_3 : decode prog_9_method_3_code 3 = .ok (.if_icmp .ne 37, 3) := by decide +kernel
theorem d_Rows_putSample_6 : decode prog_9_method_3_code 6 = .ok (.aload_n 0, 1) := by decide +kernel
theorem d_Rows_putSample_7 : decode prog_9_method_3_code 7 = .ok (.getfield 16, 3) := by decide +kernel
theorem d_Rows_putSample_10 : decode prog_9_method_3_code 10 = .ok (.iload_n 1, 1) := by decide +kernel
theorem d_Rows_putSample_11 : decode prog_9_method_3_code 11 = .ok (.iconst 2, 1) := by decide +kernel
theorem d_Rows_putSample_12 : decode prog_9_method_3_code 12 = .ok (.iload_n 2, 1) := by decide +kernel
theorem d_Rows_putSample_13 : decode prog_9_method_3_code 13 = .ok (.imul, 1) := by decide +kernel
theorem d_Rows_putSample_14 : decode prog_9_method_3_code 14 = .ok (.iadd, 1) := by decide +kernel
theorem d_Rows_putSample_15 : decode prog_9_method_3_code 15 = .ok (.iload 4, 2) := by decide +kernel
theorem d_Rows_putSample_17 : decode prog_9_method_3_code 17 = .ok (.bipush 8, 2) := by decide +kernel
theorem d_Rows_putSample_19 : decode prog_9_method_3_code 19 = .ok (.ishr, 1) := by decide +kernel
theorem d_Rows_putSample_20 : decode prog_9_method_3_code 20 = .ok (.iastore, 1) := by decide +kernel
theorem d_Rows_putSample_21 : decode prog_9_method_3_code 21 = .ok (.aload_n 0, 1) := by decide +kernel
theorem d_Rows_putSample_22 : decode prog_9_method_3_code 22 = .ok (.getfield 16, 3) := by decide +kernel
theorem d_Rows_putSample_25 : decode prog_9_method_3_code 25 = .ok (.iload_n 1, 1) := by decide +kernel
theorem d_Rows_putSample_26 : decode prog_9_method_3_code 26 = .ok (.iconst 2, 1) := by decide +kernel
theorem d_Rows_putSample_27 : decode prog_9_method_3_code 27 = .ok (.iload_n 2, 1) := by decide +kernel
theorem d_Rows_putSample_28 : decode prog_9_method_3_code 28 = .ok (.imul, 1) := by decide +kernel
theorem d_Rows_putSample_29 : decode prog_9_method_3_code 29 = .ok (.iadd, 1) := by decide +kernel
theorem d_Rows_putSample_30 : decode prog_9_method_3_code 30 = .ok (.iconst 1, 1) := by decide +kernel
theorem d_Rows_putSample_31 : decode prog_9_method_3_code 31 = .ok (.iadd, 1) := by decide +kernel
theorem d_Rows_putSample_32 : decode prog_9_method_3_code 32 = .ok (.iload 4, 2) := by decide +kernel
theorem d_Rows_putSample_34 : decode prog_9_method_3_code 34 = .ok (.sipush 255, 3) := by decide +kernel
theorem d_Rows_putSample_37 : decode prog_9_method_3_code 37 = .ok (.iand, 1) := by decide +kernel
theorem d_Rows_putSample_38 : decode prog_9_method_3_code 38 = .ok (.iastore, 1) := by decide +kernel
theorem d_Rows_putSample_39 : decode prog_9_method_3_code 39 = .ok (.return_, 1) := by decide +kernel
theorem d_Rows_putSample_40 : decode prog_9_method_3_code 40 = .ok (.iload_n 2, 1) := by decide +kernel
theorem d_Rows_putSample_41 : decode prog_9_method_3_code 41 = .ok (.iload_n 3, 1) := by decide +kernel
theorem d_Rows_putSample_42 : decode prog_9_method_3_code 42 = .ok (.imul, 1) := by decide +kernel
theorem d_Rows_putSample_43 : decode prog_9_method_3_code 43 = .ok (.istore 5, 2) := by decide +kernel
theorem d_Rows_putSample_45 : decode prog_9_method_3_code 45 = .ok (.aload_n 0, 1) := by decide +kernel
theorem d_Rows_putSample_46 : decode prog_9_method_3_code 46 = .ok (.getfield 16, 3) := by decide +kernel
theorem d_Rows_putSample_49 : decode prog_9_method_3_code 49 = .ok (.iload_n 1, 1) := by decide +kernel
theorem d_Rows_putSample_50 : decode prog_9_method_3_code 50 = .ok (.iload 5, 2) := by decide +kernel
theorem d_Rows_putSample_52 : decode prog_9_method_3_code 52 = .ok (.bipush 8, 2) := by decide +kernel
theorem d_Rows_putSample_54 : decode prog_9_method_3_code 54 = .ok (.idiv, 1) := by decide +kernel
theorem d_Rows_putSample_55 : decode prog_9_method_3_code 55 = .ok (.iadd, 1) := by decide +kernel
theorem d_Rows_putSample_56 : decode prog_9_method_3_code 56 = .ok (.dup2, 1) := by decide +kernel
theorem d_Rows_putSample_57 : decode prog_9_method_3_code 57 = .ok (.iaload, 1) := by decide +kernel
theorem d_Rows_putSample_58 : decode prog_9_method_3_code 58 = .ok (.iload 4, 2) := by decide +kernel
theorem d_Rows_putSample_60 : decode prog_9_method_3_code 60 = .ok (.bipush 8, 2) := by decide +kernel
theorem d_Rows_putSample_62 : decode prog_9_method_3_code 62 = .ok (.iload_n 3, 1) := by decide +kernel
theorem d_Rows_putSample_63 : decode prog_9_method_3_code 63 = .ok (.isub, 1) := by decide +kernel
theorem d_Rows_putSample_64 : decode prog_9_method_3_code 64 = .ok (.iload 5, 2) := by decide +kernel
theorem d_Rows_putSample_66 : decode prog_9_method_3_code 66 = .ok (.bipush 8, 2) := by decide +kernel
theorem d_Rows_putSample_68 : decode prog_9_method_3_code 68 = .ok (.irem, 1) := by decide +kernel
theorem d_Rows_putSample_69 : decode prog_9_method_3_code 69 = .ok (.isub, 1) := by decide +kernel
theorem d_Rows_putSample_70 : decode prog_9_method_3_code 70 = .ok (.ishl, 1) := by decide +kernel
theorem d_Rows_putSample_71 : decode prog_9_method_3_code 71 = .ok (.ior, 1) := by decide +kernel
theorem d_Rows_putSample_72 : decode prog_9_method_3_code 72 = .ok (.iastore, 1) := by decide +kernel
theorem d_Rows_putSample_73 : decode prog_9_method_3_code 73 = .ok (.return_, 1) := by decide +kernel
set_option maxRecDepth 100000 in
set_option maxHeartbeats 4000000 in
theorem c_Rows_putSample {l0 : Launch} (hl : l0.stackTraces = false) (n : Nat) (ids : List Nat) {t : Nat} (ht : mm_ok ids t 1 3) (a0 : Int32) (a1 : Int32) (a2 : Int32) (a3 : Int32) (σ : Mm) : kw_C l0 y_Rows_putSample (Cond.code y_Rows_putSample prog_9_method_3_code 6 none :: kw_Ts) rm_Rows_putSample kw_ov ids [] [.ref t, .int a0, .int a1, .int a2, .int a3] σ (F_Rows_putSample n t a0 a1 a2 a3 σ) := by
  refine kw_start (L0 := [some (.ref t), some (.int a0), some (.int a1), some (.int a2), some (.int a3), none]) hl (by decide +kernel) (Nat.le_of_ble_eq_true rfl) rfl (fun Γ ad C Ce => ?_)
  unfold F_Rows_putSample
  refine kw_iload_n C d_Rows_putSample_0 rfl ?_
  refine kw_bipush (v := 16) C d_Rows_putSample_1 (by decide) ?_
  refine kw_icmp_ne (tgt := 40) C d_Rows_putSample_3 (by decide) ?_ ?_
  · refine kw_iload_n C d_Rows_putSample_40 rfl ?_
    refine kw_iload_n C d_Rows_putSample_41 rfl ?_
    refine kw_imul C d_Rows_putSample_42 ?_
    refine kw_leti (fun x1 => ?_)
    refine kw_istore (L' := [some (.ref t), some (.int a0), some (.int a1), some (.int a2), some (.int a3), some (.int x1)]) C d_Rows_putSample_43 (by decide) rfl ?_
    refine kw_aload_n C d_Rows_putSample_45 rfl ?_
    refine kw_getR C fi_Rows_16 rfl rfl ht d_Rows_putSample_46 (fun o2 ho2 => ?_)
    refine kw_iload_n C d_Rows_putSample_49 rfl ?_
    refine kw_iload C d_Rows_putSample_50 rfl ?_
    refine kw_bipush (v := 8) C d_Rows_putSample_52 (by decide) ?_
    refine kw_idiv C d_Rows_putSample_54 ?_
    refine kw_iadd C d_Rows_putSample_55 ?_
    refine kw_leti (fun x3 => ?_)
    refine kw_dup2 C d_Rows_putSample_56 rfl rfl ?_
    refine kw_iald C (Or.inl ⟨ho2.1, ho2.2.1⟩) d_Rows_putSample_57 ?_
    refine kw_iload C d_Rows_putSample_58 rfl ?_
    refine kw_bipush (v := 8) C d_Rows_putSample_60 (by decide) ?_
    refine kw_iload_n C d_Rows_putSample_62 rfl ?_
    refine kw_isub C d_Rows_putSample_63 ?_
    refine kw_iload C d_Rows_putSample_64 rfl ?_
    refine kw_bipush (v := 8) C d_Rows_putSample_66 (by decide) ?_
    refine kw_irem C d_Rows_putSample_68 ?_
    refine kw_isub C d_Rows_putSample_69 ?_
    refine kw_ishl C d_Rows_putSample_70 ?_
    refine kw_ior C d_Rows_putSample_71 ?_
    refine kw_iast C ho2 d_Rows_putSample_72 (fun σ4 => ?_)
    exact kw_vret C Ce rfl (by simp) (fun _ _ => rfl) (Nat.le_of_ble_eq_true rfl) (Nat.le_of_ble_eq_true rfl) rfl d_Rows_putSample_73
  · refine kw_aload_n C d_Rows_putSample_6 rfl ?_
    refine kw_getR C fi_Rows_16 rfl rfl ht d_Rows_putSample_7 (fun o5 ho5 => ?_)
    refine kw_iload_n C d_Rows_putSample_10 rfl ?_
    refine kw_iconst (v := 2) C d_Rows_putSample_11 (by decide) ?_
    refine kw_iload_n C d_Rows_putSample_12 rfl ?_
    refine kw_imul C d_Rows_putSample_13 ?_
    refine kw_iadd C d_Rows_putSample_14 ?_
    refine kw_iload C d_Rows_putSample_15 rfl ?_
    refine kw_bipush (v := 8) C d_Rows_putSample_17 (by decide) ?_
    refine kw_ishr C d_Rows_putSample_19 ?_
    refine kw_iast C ho5 d_Rows_putSample_20 (fun σ6 => ?_)
    refine kw_aload_n C d_Rows_putSample_21 rfl ?_
    refine kw_getR C fi_Rows_16 rfl rfl ht d_Rows_putSample_22 (fun o7 ho7 => ?_)
    refine kw_iload_n C d_Rows_putSample_25 rfl ?_
    refine kw_iconst (v := 2) C d_Rows_putSample_26 (by decide) ?_
    refine kw_iload_n C d_Rows_putSample_27 rfl ?_
    refine kw_imul C d_Rows_putSample_28 ?_
    refine kw_iadd C d_Rows_putSample_29 ?_
    refine kw_iconst (v := 1) C d_Rows_putSample_30 (by decide) ?_
    refine kw_iadd C d_Rows_putSample_31 ?_
    refine kw_iload C d_Rows_putSample_32 rfl ?_
    refine kw_sipush (v := 255) C d_Rows_putSample_34 (by decide) ?_
    refine kw_iand C d_Rows_putSample_37 ?_
    refine kw_iast C ho7 d_Rows_putSample_38 (fun σ8 => ?_)
    exact kw_vret C Ce rfl (by simp) (fun _ _ => rfl) (Nat.le_of_ble_eq_true rfl) (Nat.le_of_ble_eq_true rfl) rfl d_Rows_putSample_39
/-! Rows_gather -/
def rm_Rows_gather : Room := { frames := 1, cells := 0, slots := 0, locals := 25 }
def F_Rows_gather (n : Nat) (t : Nat) (r0 : Nat) (a1 : Int32) (σ : Mm) : Option (Mm) :=
Option.bind (gR σ (64 * r0 + 11)) fun o1 =>
Option.bind (gR σ (64 * o1 + 7)) fun o2 =>
kf_in a1 (mm_kd o2).2.2 <|
kf_let ((gB σ o2 a1.toNatClampNeg) + 1 : Int32) fun x3 =>
kf_l (α := Int32) n (fun k4 x5 σ6 =>
Option.bind (gR σ6 (64 * o1 + 8)) fun o7 =>
kf_in a1 (mm_kd o7).2.2 <|
if (gB σ6 o7 a1.toNatClampNeg) ≤ x5 then (
kf_l (α := Int32 × Int32) n (fun k8 x9 σ10 =>
Option.bind (gR σ10 (64 * o1 + 6)) fun o11 =>
kf_in a1 (mm_kd o11).2.2 <|
if (gB σ10 o11 a1.toNatClampNeg) ≤ x9.2 then (
some σ10) else (
Option.bind (gR σ10 (64 * o1 + 3)) fun o12 =>
kf_in a1 (mm_kd o12).2.2 <|
Option.bind (gR σ10 (64 * o1 + 5)) fun o13 =>
kf_in a1 (mm_kd o13).2.2 <|
Option.bind (gR σ10 (64 * o1 + 4)) fun o14 =>
kf_in a1 (mm_kd o14).2.2 <|
kf_c2 (F_Picture_indexOf n r0 ((gB σ10 o12 a1.toNatClampNeg) + (x9.2 * (gB σ10 o13 a1.toNatClampNeg))) (gB σ10 o14 a1.toNatClampNeg) σ10) fun x15 σ16 =>
kf_l (α := Int32 × Int32) n (fun k17 x18 σ19 =>
if (gS σ19 (64 * r0 + 5)) ≤ x18.2 then (
kf_let (x9.2 + Int32.ofInt 1) fun x20 =>
k8 (x18.1, x20) σ19) else (
Option.bind (gR σ19 (64 * r0 + 8)) fun o21 =>
kf_let (x15 + x18.2 : Int32) fun x22 =>
kf_in x22 (mm_kd o21).2.2 <|
Option.bind (F_Rows_putSample n t x3 x18.1 (gS σ19 (64 * r0 + 3)) (gB σ19 o21 x22.toNatClampNeg) σ19) fun σ23 =>
kf_let (x18.1 + Int32.ofInt 1) fun x24 =>
kf_let (x18.2 + Int32.ofInt 1) fun x25 =>
k17 (x24, x25) σ23)) (x9.1, 0) σ16)) (0, 0) σ6) else (
Option.bind (gR σ6 (64 * t + 1)) fun o26 =>
kf_in (x3 + x5) (mm_kd o26).2.2 <| kf_let (pB σ6 o26 (x3 + x5).toNatClampNeg 0) fun σ27 =>
kf_let (x5 + Int32.ofInt 1) fun x28 =>
k4 x28 σ27)) 0 σ
theorem d_Rows_gather_0 : decode prog_9_method_2_code 0 = .ok (.aload_n 1, 1) := by decide +kernel
theorem d_Rows_gather_1 : decode prog_9_method_2_code 1 = .ok (.getfield 19, 3) := by decide +kernel
theorem d_Rows_gather_4 : decode prog_9_method_2_code 4 = .ok (.astore_n 3, 1) := by decide +kernel
theorem d_Rows_gather_5 : decode prog_9_method_2_code 5 = .ok (.aload_n 3, 1) := by decide +kernel
theorem d_Rows_gather_6 : decode prog_9_method_2_code 6 = .ok (.getfield 25, 3) := by decide +kernel
theorem d_Rows_gather_9 : decode prog_9_method_2_code 9 = .ok (.iload_n 2, 1) := by decide +kernel
theorem d_Rows_gather_10 : decode prog_9_method_2_code 10 = .ok (.iaload, 1) := by decide +kernel
theorem d_Rows_gather_11 : decode prog_9_method_2_code 11 = .ok (.iconst 1, 1) := by decide +kernel
theorem d_Rows_gather_12 : decode prog_9_method_2_code 12 = .ok (.iadd, 1) := by decide +kernel
theorem d_Rows_gather_13 : decode prog_9_method_2_code 13 = .ok (.istore 4, 2) := by decide +kernel
theorem d_Rows_gather_15 : decode prog_9_method_2_code 15 = .ok (.iconst 0, 1) := by decide +kernel
theorem d_Rows_gather_16 : decode prog_9_method_2_code 16 = .ok (.istore 5, 2) := by decide +kernel
theorem d_Rows_gather_18 : decode prog_9_method_2_code 18 = .ok (.iload 5, 2) := by decide +kernel
theorem d_Rows_gather_20 : decode prog_9_method_2_code 20 = .ok (.aload_n 3, 1) := by decide +kernel
theorem d_Rows_gather_21 : decode prog_9_method_2_code 21 = .ok (.getfield 28, 3) := by decide +kernel
theorem d_Rows_gather_24 : decode prog_9_method_2_code 24 = .ok (.iload_n 2, 1) := by decide +kernel
theorem d_Rows_gather_25 : decode prog_9_method_2_code 25 = .ok (.iaload, 1) := by decide +kernel
theorem d_Rows_gather_26 : decode prog_9_method_2_code 26 = .ok (.if_icmp .ge 20, 3) := by decide +kernel
theorem d_Rows_gather_29 : decode prog_9_method_2_code 29 = .ok (.aload_n 0, 1) := by decide +kernel
theorem d_Rows_gather_30 : decode prog_9_method_2_code 30 = .ok (.getfield 16, 3) := by decide +kernel
theorem d_Rows_gather_33 : decode prog_9_method_2_code 33 = .ok (.iload 4, 2) := by decide +kernel
theorem d_Rows_gather_35 : decode prog_9_method_2_code 35 = .ok (.iload 5, 2) := by decide +kernel
theorem d_Rows_gather_37 : decode prog_9_method_2_code 37 = .ok (.iadd, 1) := by decide +kernel
theorem d_Rows_gather_38 : decode prog_9_method_2_code 38 = .ok (.iconst 0, 1) := by decide +kernel
theorem d_Rows_gather_39 : decode prog_9_method_2_code 39 = .ok (.iastore, 1) := by decide +kernel
theorem d_Rows_gather_40 : decode prog_9_method_2_code 40 = .ok (.iinc 5 1, 3) := by decide +kernel
theorem d_Rows_gather_43 : decode prog_9_method_2_code 43 = .ok (.goto (-25), 3) := by decide +kernel
theorem d_Rows_gather_46 : decode prog_9_method_2_code 46 = .ok (.iconst 0, 1) := by decide +kernel
theorem d_Rows_gather_47 : decode prog_9_method_2_code 47 = .ok (.istore 5, 2) := by decide +kernel
theorem d_Rows_gather_49 : decode prog_9_method_2_code 49 = .ok (.iconst 0, 1) := by decide +kernel
theorem d_Rows_gather_50 : decode prog_9_method_2_code 50 = .ok (.istore 6, 2) := by decide +kernel
theorem d_Rows_gather_52 : decode prog_9_method_2_code 52 = .ok (.iload 6, 2) := by decide +kernel
theorem d_Rows_gather_54 : decode prog_9_method_2_code 54 = .ok (.aload_n 3, 1) := by decide +kernel
theorem d_Rows_gather_55 : decode prog_9_method_2_code 55 = .ok (.getfield 31, 3) := by decide +kernel
theorem d_Rows_gather_58 : decode prog_9_method_2_code 58 = .ok (.iload_n 2, 1) := by decide +kernel
theorem d_Rows_gather_59 : decode prog_9_method_2_code 59 = .ok (.iaload, 1) := by decide +kernel
theorem d_Rows_gather_60 : decode prog_9_method_2_code 60 = .ok (.if_icmp .ge 80, 3) := by decide +kernel
theorem d_Rows_gather_63 : decode prog_9_method_2_code 63 = .ok (.aload_n 1, 1) := by decide +kernel
theorem d_Rows_gather_64 : decode prog_9_method_2_code 64 = .ok (.aload_n 3, 1) := by decide +kernel
theorem d_Rows_gather_65 : decode prog_9_method_2_code 65 = .ok (.getfield 34, 3) := by decide +kernel
theorem d_Rows_gather_68 : decode prog_9_method_2_code 68 = .ok (.iload_n 2, 1) := by decide +kernel
theorem d_Rows_gather_69 : decode prog_9_method_2_code 69 = .ok (.iaload, 1) := by decide +kernel
theorem d_Rows_gather_70 : decode prog_9_method_2_code 70 = .ok (.iload 6, 2) := by decide +kernel
theorem d_Rows_gather_72 : decode prog_9_method_2_code 72 = .ok (.aload_n 3, 1) := by decide +kernel
theorem d_Rows_gather_73 : decode prog_9_method_2_code 73 = .ok (.getfield 37, 3) := by decide +kernel
theorem d_Rows_gather_76 : decode prog_9_method_2_code 76 = .ok (.iload_n 2, 1) := by decide +kernel
theorem d_Rows_gather_77 : decode prog_9_method_2_code 77 = .ok (.iaload, 1) := by decide +kernel
theorem d_Rows_gather_78 : decode prog_9_method_2_code 78 = .ok (.imul, 1) := by decide +kernel
theorem d_Rows_gather_79 : decode prog_9_method_2_code 79 = .ok (.iadd, 1) := by decide +kernel
theorem d_Rows_gather_80 : decode prog_9_method_2_code 80 = .ok (.aload_n 3, 1) := by decide +kernel
theorem d_Rows_gather_81 : decode prog_9_method_2_code 81 = .ok (.getfield 40, 3) := by decide +kernel
theorem d_Rows_gather_84 : decode prog_9_method_2_code 84 = .ok (.iload_n 2, 1) := by decide +kernel
theorem d_Rows_gather_85 : decode prog_9_method_2_code 85 = .ok (.iaload, 1) := by decide +kernel
theorem d_Rows_gather_86 : decode prog_9_method_2_code 86 = .ok (.invokevirtual 43, 3) := by decide +kernel
theorem d_Rows_gather_89 : decode prog_9_method_2_code 89 = .ok (.istore 7, 2) := by decide +kernel
theorem d_Rows_gather_91 : decode prog_9_method_2_code 91 = .ok (.iconst 0, 1) := by decide +kernel
theorem d_Rows_gather_92 : decode prog_9_method_2_code 92 = .ok (.istore 8, 2) := by decide +kernel
theorem d_Rows_gather_94 : decode prog_9_method_2_code 94 = .ok (.iload 8, 2) := by decide +kernel
theorem d_Rows_gather_96 : decode prog_9_method_2_code 96 = .ok (.aload_n 1, 1) := by decide +kernel
theorem d_Rows_gather_97 : decode prog_9_method_2_code 97 = .ok (.getfield 47, 3) := by decide +kernel
theorem d_Rows_gather_100 : decode prog_9_method_2_code 100 = .ok (.if_icmp .ge 34, 3) := by decide +kernel
theorem d_Rows_gather_103 : decode prog_9_method_2_code 103 = .ok (.aload_n 0, 1) := by decide +kernel
theorem d_Rows_gather_104 : decode prog_9_method_2_code 104 = .ok (.iload 4, 2) := by decide +kernel
theorem d_Rows_gather_106 : decode prog_9_method_2_code 106 = .ok (.iload 5, 2) := by decide +kernel
theorem d_Rows_gather_108 : decode prog_9_method_2_code 108 = .ok (.aload_n 1, 1) := by decide +kernel
theorem d_Rows_gather_109 : decode prog_9_method_2_code 109 = .ok (.getfield 51, 3) := by decide +kernel
theorem d_Rows_gather_112 : decode prog_9_method_2_code 112 = .ok (.aload_n 1, 1) := by decide +kernel
theorem d_Rows_gather_113 : decode prog_9_method_2_code 113 = .ok (.getfield 54, 3) := by decide +kernel
theorem d_Rows_gather_116 : decode prog_9_method_2_code 116 = .ok (.iload 7, 2) := by decide +kernel
theorem d_Rows_gather_118 : decode prog_9_method_2_code 118 = .ok (.iload 8, 2) := by decide +kernel
theorem d_Rows_gather_120 : decode prog_9_method_2_code 120 = .ok (.iadd, 1) := by decide +kernel
theorem d_Rows_gather_121 : decode prog_9_method_2_code 121 = .ok (.iaload, 1) := by decide +kernel
theorem d_Rows_gather_122 : decode prog_9_method_2_code 122 = .ok (.invokevirtual 57, 3) := by decide +kernel
theorem d_Rows_gather_125 : decode prog_9_method_2_code 125 = .ok (.iinc 5 1, 3) := by decide +kernel
theorem d_Rows_gather_128 : decode prog_9_method_2_code 128 = .ok (.iinc 8 1, 3) := by decide +kernel
theorem d_Rows_gather_131 : decode prog_9_method_2_code 131 = .ok (.goto (-37), 3) := by decide +kernel
theorem d_Rows_gather_134 : decode prog_9_method_2_code 134 = .ok (.iinc 6 1, 3) := by decide +kernel
theorem d_Rows_gather_137 : decode prog_9_method_2_code 137 = .ok (.goto (-85), 3) := by decide +kernel
theorem d_Rows_gather_140 : decode prog_9_method_2_code 140 = .ok (.return_, 1) := by decide +kernel
set_option maxRecDepth 100000 in
set_option maxHeartbeats 4000000 in
theorem c_Rows_gather {l0 : Launch} (hl : l0.stackTraces = false) (n : Nat) (ids : List Nat) {t : Nat} (ht : mm_ok ids t 1 3) {r0 : Nat} (hr0 : mm_ok ids r0 1 10) (a1 : Int32) (σ : Mm) : kw_C l0 y_Rows_gather (Cond.code y_Rows_gather prog_9_method_2_code 9 none :: kw_Ts) rm_Rows_gather kw_ov ids [] [.ref t, .ref r0, .int a1] σ (F_Rows_gather n t r0 a1 σ) := by
  refine kw_start (L0 := [some (.ref t), some (.ref r0), some (.int a1), none, none, none, none, none, none]) hl (by decide +kernel) (Nat.le_of_ble_eq_true rfl) rfl (fun Γ ad C Ce => ?_)
  unfold F_Rows_gather
  refine kw_aload_n C d_Rows_gather_0 rfl ?_
  refine kw_getR C fi_Rows_19 rfl rfl hr0 d_Rows_gather_1 (fun o1 ho1 => ?_)
  refine kw_astore_n (L' := [some (.ref t), some (.ref r0), some (.int a1), some (.ref o1), none, none, none, none, none]) C d_Rows_gather_4 (by decide) rfl ?_
  refine kw_aload_n C d_Rows_gather_5 rfl ?_
  refine kw_getR C fi_Rows_25 rfl rfl ho1 d_Rows_gather_6 (fun o2 ho2 => ?_)
  refine kw_iload_n C d_Rows_gather_9 rfl ?_
  refine kw_iald C (Or.inl ⟨ho2.1, ho2.2.1⟩) d_Rows_gather_10 ?_
  refine kw_iconst (v := 1) C d_Rows_gather_11 (by decide) ?_
  refine kw_iadd C d_Rows_gather_12 ?_
  refine kw_leti (fun x3 => ?_)
  refine kw_istore (L' := [some (.ref t), some (.ref r0), some (.int a1), some (.ref o1), some (.int x3), none, none, none, none]) C d_Rows_gather_13 (by decide) rfl ?_
  refine kw_iconst (v := 0) C d_Rows_gather_15 (by decide) ?_
  refine kw_istore (L' := [some (.ref t), some (.ref r0), some (.int a1), some (.ref o1), some (.int x3), some (.int 0), none, none, none]) C d_Rows_gather_16 (by decide) rfl ?_
  refine kw_wk (kw_l (α := Int32) (pc := 18) (Lj := fun x5 => [some (.ref t), some (.ref r0), some (.int a1), some (.ref o1), some (.int x3), some (.int x5), none, none, none]) (stj := fun x5 => []) (fun k4 hk4 x5 σ6 => ?_) n 0 σ) ⟨Or.inr rfl, Or.inr rfl, Or.inr rfl, Or.inr rfl, Or.inr rfl, Or.inr rfl, Or.inl rfl, Or.inl rfl, Or.inl rfl, trivial⟩
  refine kw_iload C d_Rows_gather_18 rfl ?_
  refine kw_aload_n C d_Rows_gather_20 rfl ?_
  refine kw_getR C fi_Rows_28 rfl rfl ho1 d_Rows_gather_21 (fun o7 ho7 => ?_)
  refine kw_iload_n C d_Rows_gather_24 rfl ?_
  refine kw_iald C (Or.inl ⟨ho7.1, ho7.2.1⟩) d_Rows_gather_25 ?_
  refine kw_icmp_ge (tgt := 46) C d_Rows_gather_26 (by decide) ?_ ?_
  · refine kw_iconst (v := 0) C d_Rows_gather_46 (by decide) ?_
    refine kw_istore (L' := [some (.ref t), some (.ref r0), some (.int a1), some (.ref o1), some (.int x3), some (.int 0), none, none, none]) C d_Rows_gather_47 (by decide) rfl ?_
    refine kw_iconst (v := 0) C d_Rows_gather_49 (by decide) ?_
    refine kw_istore (L' := [some (.ref t), some (.ref r0), some (.int a1), some (.ref o1), some (.int x3), some (.int 0), some (.int 0), none, none]) C d_Rows_gather_50 (by decide) rfl ?_
    refine kw_wk (kw_l (α := Int32 × Int32) (pc := 52) (Lj := fun x9 => [some (.ref t), some (.ref r0), some (.int a1), some (.ref o1), some (.int x3), some (.int x9.1), some (.int x9.2), none, none]) (stj := fun x9 => []) (fun k8 hk8 x9 σ10 => ?_) n (0, 0) σ6) ⟨Or.inr rfl, Or.inr rfl, Or.inr rfl, Or.inr rfl, Or.inr rfl, Or.inr rfl, Or.inr rfl, Or.inl rfl, Or.inl rfl, trivial⟩
    refine kw_iload C d_Rows_gather_52 rfl ?_
    refine kw_aload_n C d_Rows_gather_54 rfl ?_
    refine kw_getR C fi_Rows_31 rfl rfl ho1 d_Rows_gather_55 (fun o11 ho11 => ?_)
    refine kw_iload_n C d_Rows_gather_58 rfl ?_
    refine kw_iald C (Or.inl ⟨ho11.1, ho11.2.1⟩) d_Rows_gather_59 ?_
    refine kw_icmp_ge (tgt := 140) C d_Rows_gather_60 (by decide) ?_ ?_
    · exact kw_vret C Ce rfl (by simp) (fun _ _ => rfl) (Nat.le_of_ble_eq_true rfl) (Nat.le_of_ble_eq_true rfl) rfl d_Rows_gather_140
    · refine kw_aload_n C d_Rows_gather_63 rfl ?_
      refine kw_aload_n C d_Rows_gather_64 rfl ?_
      refine kw_getR C fi_Rows_34 rfl rfl ho1 d_Rows_gather_65 (fun o12 ho12 => ?_)
      refine kw_iload_n C d_Rows_gather_68 rfl ?_
      refine kw_iald C (Or.inl ⟨ho12.1, ho12.2.1⟩) d_Rows_gather_69 ?_
      refine kw_iload C d_Rows_gather_70 rfl ?_
      refine kw_aload_n C d_Rows_gather_72 rfl ?_
      refine kw_getR C fi_Rows_37 rfl rfl ho1 d_Rows_gather_73 (fun o13 ho13 => ?_)
      refine kw_iload_n C d_Rows_gather_76 rfl ?_
      refine kw_iald C (Or.inl ⟨ho13.1, ho13.2.1⟩) d_Rows_gather_77 ?_
      refine kw_imul C d_Rows_gather_78 ?_
      refine kw_iadd C d_Rows_gather_79 ?_
      refine kw_aload_n C d_Rows_gather_80 rfl ?_
      refine kw_getR C fi_Rows_40 rfl rfl ho1 d_Rows_gather_81 (fun o14 ho14 => ?_)
      refine kw_iload_n C d_Rows_gather_84 rfl ?_
      refine kw_iald C (Or.inl ⟨ho14.1, ho14.2.1⟩) d_Rows_gather_85 ?_
      refine kw_callVi (cl' := 0) (sl' := 0) (As := [.int ((gB σ10 o12 a1.toNatClampNeg) + (x9.2 * (gB σ10 o13 a1.toNatClampNeg))), .int (gB σ10 o14 a1.toNatClampNeg)]) C (c_Picture_indexOf hl n ids hr0 ((gB σ10 o12 a1.toNatClampNeg) + (x9.2 * (gB σ10 o13 a1.toNatClampNeg))) (gB σ10 o14 a1.toNatClampNeg) σ10) mi_Rows_43 v_Picture_indexOf ⟨_, _, rfl⟩ hr0 ⟨Nat.le_of_ble_eq_true rfl, Nat.le_of_ble_eq_true rfl⟩ (Nat.le_of_ble_eq_true rfl) ⟨Nat.le_of_ble_eq_true rfl, Nat.le_of_ble_eq_true rfl⟩ ⟨rfl, rfl⟩ rfl d_Rows_gather_86 (fun x15 σ16 => ?_)
      refine kw_istore (L' := [some (.ref t), some (.ref r0), some (.int a1), some (.ref o1), some (.int x3), some (.int x9.1), some (.int x9.2), some (.int x15), none]) C d_Rows_gather_89 (by decide) rfl ?_
      refine kw_iconst (v := 0) C d_Rows_gather_91 (by decide) ?_
      refine kw_istore (L' := [some (.ref t), some (.ref r0), some (.int a1), some (.ref o1), some (.int x3), some (.int x9.1), some (.int x9.2), some (.int x15), some (.int 0)]) C d_Rows_gather_92 (by decide) rfl ?_
      refine kw_wk (kw_l (α := Int32 × Int32) (pc := 94) (Lj := fun x18 => [some (.ref t), some (.ref r0), some (.int a1), some (.ref o1), some (.int x3), some (.int x18.1), some (.int x9.2), some (.int x15), some (.int x18.2)]) (stj := fun x18 => []) (fun k17 hk17 x18 σ19 => ?_) n (x9.1, 0) σ16) ⟨Or.inr rfl, Or.inr rfl, Or.inr rfl, Or.inr rfl, Or.inr rfl, Or.inr rfl, Or.inr rfl, Or.inr rfl, Or.inr rfl, trivial⟩
      refine kw_iload C d_Rows_gather_94 rfl ?_
      refine kw_aload_n C d_Rows_gather_96 rfl ?_
      refine kw_getI C fi_Rows_47 (Or.inl rfl) hr0 d_Rows_gather_97 ?_
      refine kw_icmp_ge (tgt := 134) C d_Rows_gather_100 (by decide) ?_ ?_
      · refine kw_iincL (L2 := fun x20 => [some (.ref t), some (.ref r0), some (.int a1), some (.ref o1), some (.int x3), some (.int x18.1), some (.int x20), some (.int x15), some (.int x18.2)]) C d_Rows_gather_134 (by decide) rfl (fun _ => rfl) (fun x20 => ?_)
        refine kw_goto (tgt := 52) C d_Rows_gather_137 (by decide) ?_
        exact kw_wk (hk8 (x18.1, x20) σ19) ⟨Or.inr rfl, Or.inr rfl, Or.inr rfl, Or.inr rfl, Or.inr rfl, Or.inr rfl, Or.inr rfl, Or.inl rfl, Or.inl rfl, trivial⟩
      · refine kw_aload_n C d_Rows_gather_103 rfl ?_
        refine kw_iload C d_Rows_gather_104 rfl ?_
        refine kw_iload C d_Rows_gather_106 rfl ?_
        refine kw_aload_n C d_Rows_gather_108 rfl ?_
        refine kw_getI C fi_Rows_51 (Or.inl rfl) hr0 d_Rows_gather_109 ?_
        refine kw_aload_n C d_Rows_gather_112 rfl ?_
        refine kw_getR C fi_Rows_54 rfl rfl hr0 d_Rows_gather_113 (fun o21 ho21 => ?_)
        refine kw_iload C d_Rows_gather_116 rfl ?_
        refine kw_iload C d_Rows_gather_118 rfl ?_
        refine kw_iadd C d_Rows_gather_120 ?_
        refine kw_leti (fun x22 => ?_)
        refine kw_iald C (Or.inl ⟨ho21.1, ho21.2.1⟩) d_Rows_gather_121 ?_
        refine kw_callVv (cl' := 0) (sl' := 0) (As := [.int x3, .int x18.1, .int (gS σ19 (64 * r0 + 3)), .int (gB σ19 o21 x22.toNatClampNeg)]) C (c_Rows_putSample hl n ids ht x3 x18.1 (gS σ19 (64 * r0 + 3)) (gB σ19 o21 x22.toNatClampNeg) σ19) mi_Rows_57 v_Rows_putSample ⟨_, _, rfl⟩ ht ⟨Nat.le_of_ble_eq_true rfl, Nat.le_of_ble_eq_true rfl⟩ (Nat.le_of_ble_eq_true rfl) ⟨Nat.le_of_ble_eq_true rfl, Nat.le_of_ble_eq_true rfl⟩ ⟨rfl, rfl⟩ rfl d_Rows_gather_122 (fun σ23 => ?_)
        refine kw_iincL (L2 := fun x24 => [some (.ref t), some (.ref r0), some (.int a1), some (.ref o1), some (.int x3), some (.int x24), some (.int x9.2), some (.int x15), some (.int x18.2)]) C d_Rows_gather_125 (by decide) rfl (fun _ => rfl) (fun x24 => ?_)
        refine kw_iincL (L2 := fun x25 => [some (.ref t), some (.ref r0), some (.int a1), some (.ref o1), some (.int x3), some (.int x24), some (.int x9.2), some (.int x15), some (.int x25)]) C d_Rows_gather_128 (by decide) rfl (fun _ => rfl) (fun x25 => ?_)
        refine kw_goto (tgt := 94) C d_Rows_gather_131 (by decide) ?_
        exact kw_wk (hk17 (x24, x25) σ23) ⟨Or.inr rfl, Or.inr rfl, Or.inr rfl, Or.inr rfl, Or.inr rfl, Or.inr rfl, Or.inr rfl, Or.inr rfl, Or.inr rfl, trivial⟩
  · refine kw_aload_n C d_Rows_gather_29 rfl ?_
    refine kw_getR C fi_Rows_16 rfl rfl ht d_Rows_gather_30 (fun o26 ho26 => ?_)
    refine kw_iload C d_Rows_gather_33 rfl ?_
    refine kw_iload C d_Rows_gather_35 rfl ?_
    refine kw_iadd C d_Rows_gather_37 ?_
    refine kw_iconst (v := 0) C d_Rows_gather_38 (by decide) ?_
    refine kw_iast C ho26 d_Rows_gather_39 (fun σ27 => ?_)
    refine kw_iincL (L2 := fun x28 => [some (.ref t), some (.ref r0), some (.int a1), some (.ref o1), some (.int x3), some (.int x28), none, none, none]) C d_Rows_gather_40 (by decide) rfl (fun _ => rfl) (fun x28 => ?_)
    refine kw_goto (tgt := 18) C d_Rows_gather_43 (by decide) ?_
    exact kw_wk (hk4 x28 σ27) ⟨Or.inr rfl, Or.inr rfl, Or.inr rfl, Or.inr rfl, Or.inr rfl, Or.inr rfl, Or.inl rfl, Or.inl rfl, Or.inl rfl, trivial⟩
/-! Rows_cost -/
def rm_Rows_cost : Room := { frames := 3, cells := 0, slots := 0, locals := 75 }
def F_Rows_cost (n : Nat) (t : Nat) (r0 : Nat) (a1 : Int32) (a2 : Int32) (σ : Mm) : Option (Int32 × Mm) :=
Option.bind (gR σ (64 * r0 + 7)) fun o1 =>
kf_in a1 (mm_kd o1).2.2 <|
kf_let ((gB σ o1 a1.toNatClampNeg) + 1 : Int32) fun x2 =>
kf_l (α := Int32 × Int32) n (fun k3 x4 σ5 =>
Option.bind (gR σ5 (64 * r0 + 8)) fun o6 =>
kf_in a1 (mm_kd o6).2.2 <|
if (gB σ5 o6 a1.toNatClampNeg) ≤ x4.2 then (
some (x4.1, σ5)) else (
Option.bind (gR σ5 (64 * t + 1)) fun o7 =>
kf_let (x2 + x4.2 : Int32) fun x8 =>
kf_in x8 (mm_kd o7).2.2 <|
kf_c2 (F_Rows_guess n t r0 a1 x4.2 a2 σ5) fun x9 σ10 =>
kf_let (((gB σ5 o7 x8.toNatClampNeg) - x9) &&& 255 : Int32) fun x11 =>
kf_j (α := Int32 × Int32) (fun x13 σ14 =>
kf_let (x13.1 + x13.2 : Int32) fun x15 =>
kf_let (x4.2 + Int32.ofInt 1) fun x16 =>
k3 (x15, x16) σ14) fun k12 =>
if x11 ≤ 127 then (
k12 (x4.1, x11) σ10) else (
k12 (x4.1, 256 - x11) σ10))) (0, 0) σ
theorem d_Rows_cost_0 : decode prog_9_method_7_code 0 = .ok (.aload_n 1, 1) := by decide +kernel
theorem d_Rows_cost_1 : decode prog_9_method_7_code 1 = .ok (.getfield 25, 3) := by decide +kernel
theorem d_Rows_cost_4 : decode prog_9_method_7_code 4 = .ok (.iload_n 2, 1) := by decide +kernel
theorem d_Rows_cost_5 : decode prog_9_method_7_code 5 = .ok (.iaload, 1) := by decide +kernel
theorem d_Rows_cost_6 : decode prog_9_method_7_code 6 = .ok (.iconst 1, 1) := by decide +kernel
theorem d_Rows_cost_7 : decode prog_9_method_7_code 7 = .ok (.iadd, 1) := by decide +kernel
theorem d_Rows_cost_8 : decode prog_9_method_7_code 8 = .ok (.istore 4, 2) := by decide +kernel
theorem d_Rows_cost_10 : decode prog_9_method_7_code 10 = .ok (.iconst 0, 1) := by decide +kernel
theorem d_Rows_cost_11 : decode prog_9_method_7_code 11 = .ok (.istore 5, 2) := by decide +kernel
theorem d_Rows_cost_13 : decode prog_9_method_7_code 13 = .ok (.iconst 0, 1) := by decide +kernel
theorem d_Rows_cost_14 : decode prog_9_method_7_code 14 = .ok (.istore 6, 2) := by decide +kernel
theorem d_Rows_cost_16 : decode prog_9_method_7_code 16 = .ok (.iload 6, 2) := by decide +kernel
theorem d_Rows_cost_18 : decode prog_9_method_7_code 18 = .ok (.aload_n 1, 1) := by decide +kernel
theorem d_Rows_cost_19 : decode prog_9_method_7_code 19 = .ok (.getfield 28, 3) := by decide +kernel
theorem d_Rows_cost_22 : decode prog_9_method_7_code 22 = .ok (.iload_n 2, 1) := by decide +kernel
theorem d_Rows_cost_23 : decode prog_9_method_7_code 23 = .ok (.iaload, 1) := by decide +kernel
theorem d_Rows_cost_24 : decode prog_9_method_7_code 24 = .ok (.if_icmp .ge 58, 3) := by decide +kernel
theorem d_Rows_cost_27 : decode prog_9_method_7_code 27 = .ok (.aload_n 0, 1) := by decide +kernel
theorem d_Rows_cost_28 : decode prog_9_method_7_code 28 = .ok (.getfield 16, 3) := by decide +kernel
theorem d_Rows_cost_31 : decode prog_9_method_7_code 31 = .ok (.iload 4, 2) := by decide +kernel
theorem d_Rows_cost_33 : decode prog_9_method_7_code 33 = .ok (.iload 6, 2) := by decide +kernel
theorem d_Rows_cost_35 : decode prog_9_method_7_code 35 = .ok (.iadd, 1) := by decide +kernel
theorem d_Rows_cost_36 : decode prog_9_method_7_code 36 = .ok (.iaload, 1) := by decide +kernel
theorem d_Rows_cost_37 : decode prog_9_method_7_code 37 = .ok (.aload_n 0, 1) := by decide +kernel
theorem d_Rows_cost_38 : decode prog_9_method_7_code 38 = .ok (.aload_n 1, 1) := by decide +kernel
theorem d_Rows_cost_39 : decode prog_9_method_7_code 39 = .ok (.iload_n 2, 1) := by decide +kernel
theorem d_Rows_cost_40 : decode prog_9_method_7_code 40 = .ok (.iload 6, 2) := by decide +kernel
theorem d_Rows_cost_42 : decode prog_9_method_7_code 42 = .ok (.iload_n 3, 1) := by decide +kernel
theorem d_Rows_cost_43 : decode prog_9_method_7_code 43 = .ok (.invokevirtual 69, 3) := by decide +kernel
theorem d_Rows_cost_46 : decode prog_9_method_7_code 46 = .ok (.isub, 1) := by decide +kernel
theorem d_Rows_cost_47 : decode prog_9_method_7_code 47 = .ok (.sipush 255, 3) := by decide +kernel
theorem d_Rows_cost_50 : decode prog_9_method_7_code 50 = .ok (.iand, 1) := by decide +kernel
theorem d_Rows_cost_51 : decode prog_9_method_7_code 51 = .ok (.istore 7, 2) := by decide +kernel
theorem d_Rows_cost_53 : decode prog_9_method_7_code 53 = .ok (.iload 5, 2) := by decide +kernel
theorem d_Rows_cost_55 : decode prog_9_method_7_code 55 = .ok (.iload 7, 2) := by decide +kernel
theorem d_Rows_cost_57 : decode prog_9_method_7_code 57 = .ok (.bipush 127, 2) := by decide +kernel
theorem d_Rows_cost_59 : decode prog_9_method_7_code 59 = .ok (.if_icmp .le 12, 3) := by decide +kernel
theorem d_Rows_cost_62 : decode prog_9_method_7_code 62 = .ok (.sipush 256, 3) := by decide +kernel
theorem d_Rows_cost_65 : decode prog_9_method_7_code 65 = .ok (.iload 7, 2) := by decide +kernel
theorem d_Rows_cost_67 : decode prog_9_method_7_code 67 = .ok (.isub, 1) := by decide +kernel
theorem d_Rows_cost_68 : decode prog_9_method_7_code 68 = .ok (.goto 5, 3) := by decide +kernel
theorem d_Rows_cost_71 : decode prog_9_method_7_code 71 = .ok (.iload 7, 2) := by decide +kernel
theorem d_Rows_cost_73 : decode prog_9_method_7_code 73 = .ok (.iadd, 1) := by decide +kernel
theorem d_Rows_cost_74 : decode prog_9_method_7_code 74 = .ok (.istore 5, 2) := by decide +kernel
theorem d_Rows_cost_76 : decode prog_9_method_7_code 76 = .ok (.iinc 6 1, 3) := by decide +kernel
theorem d_Rows_cost_79 : decode prog_9_method_7_code 79 = .ok (.goto (-63), 3) := by decide +kernel
theorem d_Rows_cost_82 : decode prog_9_method_7_code 82 = .ok (.iload 5, 2) := by decide +kernel
theorem d_Rows_cost_84 : decode prog_9_method_7_code 84 = .ok (.ireturn, 1) := by decide +kernel
set_option maxRecDepth 100000 in
set_option maxHeartbeats 4000000 in
theorem c_Rows_cost {l0 : Launch} (hl : l0.stackTraces = false) (n : Nat) (ids : List Nat) {t : Nat} (ht : mm_ok ids t 1 3) {r0 : Nat} (hr0 : mm_ok ids r0 1 11) (a1 : Int32) (a2 : Int32) (σ : Mm) : kw_C l0 y_Rows_cost (Cond.code y_Rows_cost prog_9_method_7_code 8 (some .int) :: kw_Ts) rm_Rows_cost kw_oi ids [] [.ref t, .ref r0, .int a1, .int a2] σ (F_Rows_cost n t r0 a1 a2 σ) := by
  refine kw_start (L0 := [some (.ref t), some (.ref r0), some (.int a1), some (.int a2), none, none, none, none]) hl (by decide +kernel) (Nat.le_of_ble_eq_true rfl) rfl (fun Γ ad C Ce => ?_)
  unfold F_Rows_cost
  refine kw_aload_n C d_Rows_cost_0 rfl ?_
  refine kw_getR C fi_Rows_25 rfl rfl hr0 d_Rows_cost_1 (fun o1 ho1 => ?_)
  refine kw_iload_n C d_Rows_cost_4 rfl ?_
  refine kw_iald C (Or.inl ⟨ho1.1, ho1.2.1⟩) d_Rows_cost_5 ?_
  refine kw_iconst (v := 1) C d_Rows_cost_6 (by decide) ?_
  refine kw_iadd C d_Rows_cost_7 ?_
  refine kw_leti (fun x2 => ?_)
  refine kw_istore (L' := [some (.ref t), some (.ref r0), some (.int a1), some (.int a2), some (.int x2), none, none, none]) C d_Rows_cost_8 (by decide) rfl ?_
  refine kw_iconst (v := 0) C d_Rows_cost_10 (by decide) ?_
  refine kw_istore (L' := [some (.ref t), some (.ref r0), some (.int a1), some (.int a2), some (.int x2), some (.int 0), none, none]) C d_Rows_cost_11 (by decide) rfl ?_
  refine kw_iconst (v := 0) C d_Rows_cost_13 (by decide) ?_
  refine kw_istore (L' := [some (.ref t), some (.ref r0), some (.int a1), some (.int a2), some (.int x2), some (.int 0), some (.int 0), none]) C d_Rows_cost_14 (by decide) rfl ?_
  refine kw_wk (kw_l (α := Int32 × Int32) (pc := 16) (Lj := fun x4 => [some (.ref t), some (.ref r0), some (.int a1), some (.int a2), some (.int x2), some (.int x4.1), some (.int x4.2), none]) (stj := fun x4 => []) (fun k3 hk3 x4 σ5 => ?_) n (0, 0) σ) ⟨Or.inr rfl, Or.inr rfl, Or.inr rfl, Or.inr rfl, Or.inr rfl, Or.inr rfl, Or.inr rfl, Or.inl rfl, trivial⟩
  refine kw_iload C d_Rows_cost_16 rfl ?_
  refine kw_aload_n C d_Rows_cost_18 rfl ?_
  refine kw_getR C fi_Rows_28 rfl rfl hr0 d_Rows_cost_19 (fun o6 ho6 => ?_)
  refine kw_iload_n C d_Rows_cost_22 rfl ?_
  refine kw_iald C (Or.inl ⟨ho6.1, ho6.2.1⟩) d_Rows_cost_23 ?_
  refine kw_icmp_ge (tgt := 82) C d_Rows_cost_24 (by decide) ?_ ?_
  · refine kw_iload C d_Rows_cost_82 rfl ?_
    exact kw_iret C Ce rfl (by simp) (fun _ _ => rfl) (Nat.le_of_ble_eq_true rfl) (Nat.le_of_ble_eq_true rfl) rfl d_Rows_cost_84
  · refine kw_aload_n C d_Rows_cost_27 rfl ?_
    refine kw_getR C fi_Rows_16 rfl rfl ht d_Rows_cost_28 (fun o7 ho7 => ?_)
    refine kw_iload C d_Rows_cost_31 rfl ?_
    refine kw_iload C d_Rows_cost_33 rfl ?_
    refine kw_iadd C d_Rows_cost_35 ?_
    refine kw_leti (fun x8 => ?_)
    refine kw_iald C (Or.inl ⟨ho7.1, ho7.2.1⟩) d_Rows_cost_36 ?_
    refine kw_aload_n C d_Rows_cost_37 rfl ?_
    refine kw_aload_n C d_Rows_cost_38 rfl ?_
    refine kw_iload_n C d_Rows_cost_39 rfl ?_
    refine kw_iload C d_Rows_cost_40 rfl ?_
    refine kw_iload_n C d_Rows_cost_42 rfl ?_
    refine kw_callVi (cl' := 0) (sl' := 0) (As := [.ref r0, .int a1, .int x4.2, .int a2]) C (c_Rows_guess hl n ids ht hr0 a1 x4.2 a2 σ5) mi_Rows_69 v_Rows_guess ⟨_, _, rfl⟩ ht ⟨Nat.le_of_ble_eq_true rfl, Nat.le_of_ble_eq_true rfl⟩ (Nat.le_of_ble_eq_true rfl) ⟨Nat.le_of_ble_eq_true rfl, Nat.le_of_ble_eq_true rfl⟩ ⟨rfl, rfl⟩ rfl d_Rows_cost_43 (fun x9 σ10 => ?_)
    refine kw_isub C d_Rows_cost_46 ?_
    refine kw_sipush (v := 255) C d_Rows_cost_47 (by decide) ?_
    refine kw_iand C d_Rows_cost_50 ?_
    refine kw_leti (fun x11 => ?_)
    refine kw_istore (L' := [some (.ref t), some (.ref r0), some (.int a1), some (.int a2), some (.int x2), some (.int x4.1), some (.int x4.2), some (.int x11)]) C d_Rows_cost_51 (by decide) rfl ?_
    refine kw_iload C d_Rows_cost_53 rfl ?_
    refine kw_iload C d_Rows_cost_55 rfl ?_
    refine kw_bipush (v := 127) C d_Rows_cost_57 (by decide) ?_
    refine kw_j (α := Int32 × Int32) (pcj := 73) (Lj := fun x13 => [some (.ref t), some (.ref r0), some (.int a1), some (.int a2), some (.int x2), none, some (.int x4.2), none]) (stj := fun x13 => [.int x13.2, .int x13.1]) (fun x13 σ14 => ?_) (fun k12 hk12 => ?_)
    · refine kw_iadd C d_Rows_cost_73 ?_
      refine kw_leti (fun x15 => ?_)
      refine kw_istore (L' := [some (.ref t), some (.ref r0), some (.int a1), some (.int a2), some (.int x2), some (.int x15), some (.int x4.2), none]) C d_Rows_cost_74 (by decide) rfl ?_
      refine kw_iincL (L2 := fun x16 => [some (.ref t), some (.ref r0), some (.int a1), some (.int a2), some (.int x2), some (.int x15), some (.int x16), none]) C d_Rows_cost_76 (by decide) rfl (fun _ => rfl) (fun x16 => ?_)
      refine kw_goto (tgt := 16) C d_Rows_cost_79 (by decide) ?_
      exact kw_wk (hk3 (x15, x16) σ14) ⟨Or.inr rfl, Or.inr rfl, Or.inr rfl, Or.inr rfl, Or.inr rfl, Or.inr rfl, Or.inr rfl, Or.inl rfl, trivial⟩
    · refine kw_icmp_le (tgt := 71) C d_Rows_cost_59 (by decide) ?_ ?_
      · refine kw_iload C d_Rows_cost_71 rfl ?_
        exact kw_wk (hk12 (x4.1, x11) σ10) ⟨Or.inr rfl, Or.inr rfl, Or.inr rfl, Or.inr rfl, Or.inr rfl, Or.inl rfl, Or.inr rfl, Or.inl rfl, trivial⟩
      · refine kw_sipush (v := 256) C d_Rows_cost_62 (by decide) ?_
        refine kw_iload C d_Rows_cost_65 rfl ?_
        refine kw_isub C d_Rows_cost_67 ?_
        refine kw_goto (tgt := 73) C d_Rows_cost_68 (by decide) ?_
        exact kw_wk (hk12 (x4.1, 256 - x11) σ10) ⟨Or.inr rfl, Or.inr rfl, Or.inr rfl, Or.inr rfl, Or.inr rfl, Or.inl rfl, Or.inr rfl, Or.inl rfl, trivial⟩
