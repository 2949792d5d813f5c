theorem mi_Pieces_119 : kw_mi "PictureFile$Pieces" 119 y_Picture_isSize prog_7_method_2_code 1 (some .boolean) 1 := ⟨(kw_m3 (i := 25) (by decide +kernel) (by decide +kernel)), w_Picture_isSize, in_Picture, by decide +kernel, by decide +kernel, by decide +kernel⟩
theorem s_Picture_isSize : Cond.static y_Picture_isSize ∈ kw_Ts := (kw_m3 (i := 26) (by decide +kernel) (by decide +kernel))
theorem mi_Pieces_122 : kw_mi "PictureFile$Pieces" 122 y_Picture_isDepth prog_7_method_3_code 1 (some .boolean) 1 := ⟨(kw_m3 (i := 28) (by decide +kernel) (by decide +kernel)), w_Picture_isDepth, in_Picture, by decide +kernel, by decide +kernel, by decide +kernel⟩
theorem mi_Pieces_125 : kw_mi "PictureFile$Pieces" 125 y_Picture_kindHas prog_7_method_4_code 2 (some .boolean) 2 := ⟨(kw_m3 (i := 31) (by decide +kernel) (by decide +kernel)), w_Picture_kindHas, in_Picture, by decide +kernel, by decide +kernel, by decide +kernel⟩
theorem s_Picture_kindHas : Cond.static y_Picture_kindHas ∈ kw_Ts := (kw_m3 (i := 32) (by decide +kernel) (by decide +kernel))
def y_Pieces_wrongInHeader : MethodName := ⟨"PictureFile$Pieces", "wrongInHeader", "(I)I"⟩
theorem w_Pieces_wrongInHeader : Cond.code y_Pieces_wrongInHeader prog_8_method_8_code 2 (some .int) ∈ kw_Ts := (kw_m3 (i := 24) (by decide +kernel) (by decide +kernel))
def y_Picture_channelsOf : MethodName := ⟨"PictureFile$Picture", "channelsOf", "(I)I"⟩
theorem w_Picture_channelsOf : Cond.code y_Picture_channelsOf prog_7_method_7_code 1 (some .int) ∈ kw_Ts := (kw_m3 (i := 41) (by decide +kernel) (by decide +kernel))
theorem fi_Layout_9 : kw_fi "PictureFile$Layout" 9 11 3 true := ⟨mmR_11, mmT_11, 10, rfl, rfl, by decide, mmI_11, mmY_11, mmN_11, rfl, (kw_m2 (i := 63) (by decide +kernel) (by decide +kernel))⟩
theorem fi_Layout_31 : kw_fi "PictureFile$Layout" 31 11 0 false := ⟨mmR_11, mmT_11, 10, rfl, rfl, by decide, mmI_11, mmY_11, mmN_11, rfl, (kw_m2 (i := 55) (by decide +kernel) (by decide +kernel))⟩
theorem fi_Layout_13 : kw_fi "PictureFile$Layout" 13 11 4 true := ⟨mmR_11, mmT_11, 10, rfl, rfl, by decide, mmI_11, mmY_11, mmN_11, rfl, (kw_m2 (i := 65) (by decide +kernel) (by decide +kernel))⟩
theorem fi_Layout_16 : kw_fi "PictureFile$Layout" 16 11 5 true := ⟨mmR_11, mmT_11, 10, rfl, rfl, by decide, mmI_11, mmY_11, mmN_11, rfl, (kw_m2 (i := 67) (by decide +kernel) (by decide +kernel))⟩
theorem fi_Layout_19 : kw_fi "PictureFile$Layout" 19 11 6 true := ⟨mmR_11, mmT_11, 10, rfl, rfl, by decide, mmI_11, mmY_11, mmN_11, rfl, (kw_m2 (i := 69) (by decide +kernel) (by decide +kernel))⟩
theorem fi_Layout_22 : kw_fi "PictureFile$Layout" 22 11 7 true := ⟨mmR_11, mmT_11, 10, rfl, rfl, by decide, mmI_11, mmY_11, mmN_11, rfl, (kw_m2 (i := 71) (by decide +kernel) (by decide +kernel))⟩
theorem fi_Layout_35 : kw_fi "PictureFile$Layout" 35 11 1 false := ⟨mmR_11, mmT_11, 10, rfl, rfl, by decide, mmI_11, mmY_11, mmN_11, rfl, (kw_m2 (i := 58) (by decide +kernel) (by decide +kernel))⟩
theorem fi_Layout_25 : kw_fi "PictureFile$Layout" 25 11 8 true := ⟨mmR_11, mmT_11, 10, rfl, rfl, by decide, mmI_11, mmY_11, mmN_11, rfl, (kw_m2 (i := 73) (by decide +kernel) (by decide +kernel))⟩
def y_Layout_addRow : MethodName := ⟨"PictureFile$Layout", "addRow", "(IIIII)V"⟩
theorem w_Layout_addRow : Cond.code y_Layout_addRow prog_4_method_3_code 6 none ∈ kw_Ts := (kw_m3 (i := 58) (by decide +kernel) (by decide +kernel))
theorem in_Math : Cond.initialized "java/lang/Math" ∈ kw_Ts := (kw_m1 (i := 20) (by decide +kernel) (by decide +kernel))
theorem ms_max : Cond.static Lib.Math.max.name ∈ kw_Ts := (kw_m3 (i := 47) (by decide +kernel) (by decide +kernel))
theorem mw_max : Cond.code Lib.Math.max.name Lib.Math.max.code 2 (some .int) ∈ kw_Ts := (kw_m3 (i := 48) (by decide +kernel) (by decide +kernel))
theorem mth_Layout_38 : Cond.methodLink "PictureFile$Layout" 38 Lib.Math.max.name ∈ kw_Ts := (kw_m3 (i := 46) (by decide +kernel) (by decide +kernel))
theorem fi_Layout_44 : kw_fi "PictureFile$Layout" 44 11 2 false := ⟨mmR_11, mmT_11, 10, rfl, rfl, by decide, mmI_11, mmY_11, mmN_11, rfl, (kw_m2 (i := 61) (by decide +kernel) (by decide +kernel))⟩
theorem gs_Layout_47 : Cond.fieldLink "PictureFile$Layout" 47 "PictureFile$Layout" "PASS_X" "[I" ∈ kw_Ts := (kw_m3 (i := 49) (by decide +kernel) (by decide +kernel))
theorem gs_Layout_50 : Cond.fieldLink "PictureFile$Layout" 50 "PictureFile$Layout" "PASS_RIGHT" "[I" ∈ kw_Ts := (kw_m3 (i := 51) (by decide +kernel) (by decide +kernel))
theorem gs_Layout_53 : Cond.fieldLink "PictureFile$Layout" 53 "PictureFile$Layout" "PASS_Y" "[I" ∈ kw_Ts := (kw_m3 (i := 53) (by decide +kernel) (by decide +kernel))
theorem in_Layout : Cond.initialized "PictureFile$Layout" ∈ kw_Ts := (kw_m1 (i := 13) (by decide +kernel) (by decide +kernel))
theorem mi_Layout_56 : kw_mi "PictureFile$Layout" 56 y_Layout_addRow prog_4_method_3_code 6 none 5 := ⟨(kw_m3 (i := 55) (by decide +kernel) (by decide +kernel)), w_Layout_addRow, in_Layout, by decide +kernel, by decide +kernel, by decide +kernel⟩
theorem v_Layout_addRow : Cond.instanceMethod y_Layout_addRow ∈ kw_Ts ∧ Cond.selects y_Layout_addRow.cls y_Layout_addRow y_Layout_addRow ∈ kw_Ts := ⟨(kw_m3 (i := 57) (by decide +kernel) (by decide +kernel)), (kw_sel (i := 5) (by decide +kernel) (by decide +kernel))⟩
theorem fi_Layout_28 : kw_fi "PictureFile$Layout" 28 11 9 true := ⟨mmR_11, mmT_11, 10, rfl, rfl, by decide, mmI_11, mmY_11, mmN_11, rfl, (kw_m2 (i := 75) (by decide +kernel) (by decide +kernel))⟩
theorem gs_Layout_60 : Cond.fieldLink "PictureFile$Layout" 60 "PictureFile$Layout" "PASS_DOWN" "[I" ∈ kw_Ts := (kw_m3 (i := 59) (by decide +kernel) (by decide +kernel))
def y_Layout_lay : MethodName := ⟨"PictureFile$Layout", "lay", "(IIIZ)V"⟩
theorem w_Layout_lay : Cond.code y_Layout_lay prog_4_method_2_code 11 none ∈ kw_Ts := (kw_m3 (i := 45) (by decide +kernel) (by decide +kernel))
theorem fi_Picture_30 : kw_fi "PictureFile$Picture" 30 10 0 false := ⟨mmR_10, mmT_10, 12, rfl, rfl, by decide, mmI_10, mmY_10, mmN_10, rfl, (kw_m2 (i := 101) (by decide +kernel) (by decide +kernel))⟩
theorem fi_Picture_34 : kw_fi "PictureFile$Picture" 34 10 1 false := ⟨mmR_10, mmT_10, 12, rfl, rfl, by decide, mmI_10, mmY_10, mmN_10, rfl, (kw_m2 (i := 105) (by decide +kernel) (by decide +kernel))⟩
theorem fi_Picture_37 : kw_fi "PictureFile$Picture" 37 10 2 false := ⟨mmR_10, mmT_10, 12, rfl, rfl, by decide, mmI_10, mmY_10, mmN_10, rfl, (kw_m2 (i := 110) (by decide +kernel) (by decide +kernel))⟩
theorem fi_Picture_40 : kw_fi "PictureFile$Picture" 40 10 3 false := ⟨mmR_10, mmT_10, 12, rfl, rfl, by decide, mmI_10, mmY_10, mmN_10, rfl, (kw_m2 (i := 115) (by decide +kernel) (by decide +kernel))⟩
theorem fi_Picture_43 : kw_fi "PictureFile$Picture" 43 10 4 false := ⟨mmR_10, mmT_10, 12, rfl, rfl, by decide, mmI_10, mmY_10, mmN_10, rfl, (kw_m2 (i := 119) (by decide +kernel) (by decide +kernel))⟩
theorem mi_Picture_47 : kw_mi "PictureFile$Picture" 47 y_Picture_channelsOf prog_7_method_7_code 1 (some .int) 1 := ⟨(kw_m3 (i := 39) (by decide +kernel) (by decide +kernel)), w_Picture_channelsOf, in_Picture, by decide +kernel, by decide +kernel, by decide +kernel⟩
theorem s_Picture_channelsOf : Cond.static y_Picture_channelsOf ∈ kw_Ts := (kw_m3 (i := 40) (by decide +kernel) (by decide +kernel))
theorem fi_Picture_51 : kw_fi "PictureFile$Picture" 51 10 5 false := ⟨mmR_10, mmT_10, 12, rfl, rfl, by decide, mmI_10, mmY_10, mmN_10, rfl, (kw_m2 (i := 121) (by decide +kernel) (by decide +kernel))⟩
theorem fi_Picture_54 : kw_fi "PictureFile$Picture" 54 10 6 false := ⟨mmR_10, mmT_10, 12, rfl, rfl, by decide, mmI_10, mmY_10, mmN_10, rfl, (kw_m2 (i := 126) (by decide +kernel) (by decide +kernel))⟩
theorem fi_Picture_57 : kw_fi "PictureFile$Picture" 57 10 7 false := ⟨mmR_10, mmT_10, 12, rfl, rfl, by decide, mmI_10, mmY_10, mmN_10, rfl, (kw_m2 (i := 131) (by decide +kernel) (by decide +kernel))⟩
theorem fi_Picture_22 : kw_fi "PictureFile$Picture" 22 10 11 true := ⟨mmR_10, mmT_10, 12, rfl, rfl, by decide, mmI_10, mmY_10, mmN_10, rfl, (kw_m2 (i := 141) (by decide +kernel) (by decide +kernel))⟩
theorem mi_Picture_60 : kw_mi "PictureFile$Picture" 60 y_Layout_lay prog_4_method_2_code 11 none 4 := ⟨(kw_m3 (i := 42) (by decide +kernel) (by decide +kernel)), w_Layout_lay, in_Layout, by decide +kernel, by decide +kernel, by decide +kernel⟩
theorem v_Layout_lay : Cond.instanceMethod y_Layout_lay ∈ kw_Ts ∧ Cond.selects y_Layout_lay.cls y_Layout_lay y_Layout_lay ∈ kw_Ts := ⟨(kw_m3 (i := 43) (by decide +kernel) (by decide +kernel)), (kw_m3 (i := 44) (by decide +kernel) (by decide +kernel))⟩
theorem fi_Picture_9 : kw_fi "PictureFile$Picture" 9 10 8 true := ⟨mmR_10, mmT_10, 12, rfl, rfl, by decide, mmI_10, mmY_10, mmN_10, rfl, (kw_m2 (i := 132) (by decide +kernel) (by decide +kernel))⟩
def y_Picture_begin : MethodName := ⟨"PictureFile$Picture", "begin", "(IIIIZ)V"⟩
theorem w_Picture_begin : Cond.code y_Picture_begin prog_7_method_8_code 7 none ∈ kw_Ts := (kw_m3 (i := 38) (by decide +kernel) (by decide +kernel))
theorem mi_Pieces_112 : kw_mi "PictureFile$Pieces" 112 y_Pieces_wrongInHeader prog_8_method_8_code 2 (some .int) 1 := ⟨(kw_m3 (i := 21) (by decide +kernel) (by decide +kernel)), w_Pieces_wrongInHeader, in_Pieces, by decide +kernel, by decide +kernel, by decide +kernel⟩
theorem v_Pieces_wrongInHeader : Cond.instanceMethod y_Pieces_wrongInHeader ∈ kw_Ts ∧ Cond.selects y_Pieces_wrongInHeader.cls y_Pieces_wrongInHeader y_Pieces_wrongInHeader ∈ kw_Ts := ⟨(kw_m3 (i := 23) (by decide +kernel) (by decide +kernel)), (kw_sel (i := 4) (by decide +kernel) (by decide +kernel))⟩
theorem mi_Pieces_115 : kw_mi "PictureFile$Pieces" 115 y_Picture_begin prog_7_method_8_code 7 none 5 := ⟨(kw_m3 (i := 35) (by decide +kernel) (by decide +kernel)), w_Picture_begin, in_Picture, by decide +kernel, by decide +kernel, by decide +kernel⟩
theorem v_Picture_begin : Cond.instanceMethod y_Picture_begin ∈ kw_Ts ∧ Cond.selects y_Picture_begin.cls y_Picture_begin y_Picture_begin ∈ kw_Ts := ⟨(kw_m3 (i := 36) (by decide +kernel) (by decide +kernel)), (kw_m3 (i := 37) (by decide +kernel) (by decide +kernel))⟩
def y_Pieces_takeHeader : MethodName := ⟨"PictureFile$Pieces", "takeHeader", "(II)Z"⟩
theorem w_Pieces_takeHeader : Cond.code y_Pieces_takeHeader prog_8_method_7_code 5 (some .boolean) ∈ kw_Ts := (kw_m3 (i := 20) (by decide +kernel) (by decide +kernel))
def y_Picture_mostColours : MethodName := ⟨"PictureFile$Picture", "mostColours", "()I"⟩
theorem w_Picture_mostColours : Cond.code y_Picture_mostColours prog_7_method_10_code 1 (some .int) ∈ kw_Ts := (kw_m3 (i := 68) (by decide +kernel) (by decide +kernel))
theorem fi_Picture_13 : kw_fi "PictureFile$Picture" 13 10 9 true := ⟨mmR_10, mmT_10, 12, rfl, rfl, by decide, mmI_10, mmY_10, mmN_10, rfl, (kw_m2 (i := 135) (by decide +kernel) (by decide +kernel))⟩
def y_Picture_addColour : MethodName := ⟨"PictureFile$Picture", "addColour", "(III)V"⟩
theorem w_Picture_addColour : Cond.code y_Picture_addColour prog_7_method_14_code 4 none ∈ kw_Ts := (kw_m3 (i := 72) (by decide +kernel) (by decide +kernel))
theorem mi_Pieces_128 : kw_mi "PictureFile$Pieces" 128 y_Picture_mostColours prog_7_method_10_code 1 (some .int) 0 := ⟨(kw_m3 (i := 65) (by decide +kernel) (by decide +kernel)), w_Picture_mostColours, in_Picture, by decide +kernel, by decide +kernel, by decide +kernel⟩
theorem v_Picture_mostColours : Cond.instanceMethod y_Picture_mostColours ∈ kw_Ts ∧ Cond.selects y_Picture_mostColours.cls y_Picture_mostColours y_Picture_mostColours ∈ kw_Ts := ⟨(kw_m3 (i := 66) (by decide +kernel) (by decide +kernel)), (kw_m3 (i := 67) (by decide +kernel) (by decide +kernel))⟩
theorem mi_Pieces_132 : kw_mi "PictureFile$Pieces" 132 y_Picture_addColour prog_7_method_14_code 4 none 3 := ⟨(kw_m3 (i := 69) (by decide +kernel) (by decide +kernel)), w_Picture_addColour, in_Picture, by decide +kernel, by decide +kernel, by decide +kernel⟩
theorem v_Picture_addColour : Cond.instanceMethod y_Picture_addColour ∈ kw_Ts ∧ Cond.selects y_Picture_addColour.cls y_Picture_addColour y_Picture_addColour ∈ kw_Ts := ⟨(kw_m3 (i := 70) (by decide +kernel) (by decide +kernel)), (kw_m3 (i := 71) (by decide +kernel) (by decide +kernel))⟩
def y_Pieces_takeColours : MethodName := ⟨"PictureFile$Pieces", "takeColours", "(II)Z"⟩
theorem w_Pieces_takeColours : Cond.code y_Pieces_takeColours prog_8_method_9_code 4 (some .boolean) ∈ kw_Ts := (kw_m3 (i := 64) (by decide +kernel) (by decide +kernel))
theorem fi_Picture_16 : kw_fi "PictureFile$Picture" 16 10 10 true := ⟨mmR_10, mmT_10, 12, rfl, rfl, by decide, mmI_10, mmY_10, mmN_10, rfl, (kw_m2 (i := 138) (by decide +kernel) (by decide +kernel))⟩
def y_Picture_addThin : MethodName := ⟨"PictureFile$Picture", "addThin", "(I)V"⟩
theorem w_Picture_addThin : Cond.code y_Picture_addThin prog_7_method_15_code 2 none ∈ kw_Ts := (kw_m3 (i := 80) (by decide +kernel) (by decide +kernel))
theorem fi_Pieces_143 : kw_fi "PictureFile$Pieces" 143 10 5 false := ⟨mmR_10, mmT_10, 12, rfl, rfl, by decide, mmI_10, mmY_10, mmN_10, rfl, (kw_m2 (i := 122) (by decide +kernel) (by decide +kernel))⟩
theorem mi_Pieces_146 : kw_mi "PictureFile$Pieces" 146 y_Tape_pair prog_10_method_7_code 2 (some .int) 1 := ⟨(kw_m3 (i := 81) (by decide +kernel) (by decide +kernel)), w_Tape_pair, in_Tape, by decide +kernel, by decide +kernel, by decide +kernel⟩
theorem fi_Pieces_149 : kw_fi "PictureFile$Pieces" 149 10 3 false := ⟨mmR_10, mmT_10, 12, rfl, rfl, by decide, mmI_10, mmY_10, mmN_10, rfl, (kw_m2 (i := 116) (by decide +kernel) (by decide +kernel))⟩
theorem mi_Pieces_139 : kw_mi "PictureFile$Pieces" 139 y_Picture_addThin prog_7_method_15_code 2 none 1 := ⟨(kw_m3 (i := 77) (by decide +kernel) (by decide +kernel)), w_Picture_addThin, in_Picture, by decide +kernel, by decide +kernel, by decide +kernel⟩
theorem v_Picture_addThin : Cond.instanceMethod y_Picture_addThin ∈ kw_Ts ∧ Cond.selects y_Picture_addThin.cls y_Picture_addThin y_Picture_addThin ∈ kw_Ts := ⟨(kw_m3 (i := 78) (by decide +kernel) (by decide +kernel)), (kw_m3 (i := 79) (by decide +kernel) (by decide +kernel))⟩
theorem fi_Pieces_136 : kw_fi "PictureFile$Pieces" 136 10 6 false := ⟨mmR_10, mmT_10, 12, rfl, rfl, by decide, mmI_10, mmY_10, mmN_10, rfl, (kw_m2 (i := 127) (by decide +kernel) (by decide +kernel))⟩
def y_Pieces_takeThins : MethodName := ⟨"PictureFile$Pieces", "takeThins", "(II)Z"⟩
theorem w_Pieces_takeThins : Cond.code y_Pieces_takeThins prog_8_method_10_code 5 (some .boolean) ∈ kw_Ts := (kw_m3 (i := 76) (by decide +kernel) (by decide +kernel))
theorem k_PackedBits_11 : Cond.constant "PictureFile$PackedBits" 11 65536 ∈ kw_Ts := (kw_m1 (i := 98) (by decide +kernel) (by decide +kernel))
theorem fi_PackedBits_12 : kw_fi "PictureFile$PackedBits" 12 4 2 true := ⟨mmR_4, mmT_4, 6, rfl, rfl, by decide, mmI_4, mmY_4, mmN_4, rfl, (kw_m1 (i := 101) (by decide +kernel) (by decide +kernel))⟩
def y_PackedBits_append : MethodName := ⟨"PictureFile$PackedBits", "append", "(II)V"⟩
theorem w_PackedBits_append : Cond.code y_PackedBits_append prog_5_method_3_code 4 none ∈ kw_Ts := (kw_m3 (i := 89) (by decide +kernel) (by decide +kernel))
theorem fi_Pieces_19 : kw_fi "PictureFile$Pieces" 19 5 2 true := ⟨mmR_5, mmT_5, 8, rfl, rfl, by decide, mmI_5, mmY_5, mmN_5, rfl, (kw_m1 (i := 127) (by decide +kernel) (by decide +kernel))⟩
theorem in_PackedBits : Cond.initialized "PictureFile$PackedBits" ∈ kw_Ts := (kw_m1 (i := 5) (by decide +kernel) (by decide +kernel))
theorem mi_Pieces_152 : kw_mi "PictureFile$Pieces" 152 y_PackedBits_append prog_5_method_3_code 4 none 2 := ⟨(kw_m3 (i := 86) (by decide +kernel) (by decide +kernel)), w_PackedBits_append, in_PackedBits, by decide +kernel, by decide +kernel, by decide +kernel⟩
theorem v_PackedBits_append : Cond.instanceMethod y_PackedBits_append ∈ kw_Ts ∧ Cond.selects y_PackedBits_append.cls y_PackedBits_append y_PackedBits_append ∈ kw_Ts := ⟨(kw_m3 (i := 87) (by decide +kernel) (by decide +kernel)), (kw_m3 (i := 88) (by decide +kernel) (by decide +kernel))⟩
def y_Pieces_takeData : MethodName := ⟨"PictureFile$Pieces", "takeData", "(II)Z"⟩
theorem w_Pieces_takeData : Cond.code y_Pieces_takeData prog_8_method_11_code 3 (some .boolean) ∈ kw_Ts := (kw_m3 (i := 85) (by decide +kernel) (by decide +kernel))
/-! Pieces_wrongInHeader -/
def rm_Pieces_wrongInHeader : Room := { frames := 2, cells := 0, slots := 0, locals := 42 }
def F_Pieces_wrongInHeader (n : Nat) (t : Nat) (a0 : Int32) (σ : Mm) : Option (Int32 × Mm) :=
Option.bind (gR σ (64 * t + 0)) fun o1 =>
kf_c2 (F_Tape_number n o1 a0 σ) fun x2 σ3 =>
kf_c2 (F_Picture_isSize n x2 σ3) fun x4 σ5 =>
if x4 = 0 then (
some (0, σ5)) else (
Option.bind (gR σ5 (64 * t + 0)) fun o6 =>
kf_c2 (F_Tape_number n o6 (a0 + 4) σ5) fun x7 σ8 =>
kf_c2 (F_Picture_isSize n x7 σ8) fun x9 σ10 =>
if x9 = 0 then (
some (4, σ10)) else (
Option.bind (gR σ10 (64 * t + 0)) fun o11 =>
Option.bind (gR σ10 (64 * o11 + 0)) fun o12 =>
kf_let (a0 + 8 : Int32) fun x13 =>
kf_in x13 (mm_kd o12).2.2 <|
kf_c2 (F_Picture_isDepth n (gB σ10 o12 x13.toNatClampNeg) σ10) fun x14 σ15 =>
if x14 = 0 then (
some (8, σ15)) else (
Option.bind (gR σ15 (64 * t + 0)) fun o16 =>
Option.bind (gR σ15 (64 * o16 + 0)) fun o17 =>
kf_let (a0 + 9 : Int32) fun x18 =>
kf_in x18 (mm_kd o17).2.2 <|
Option.bind (gR σ15 (64 * t + 0)) fun o19 =>
Option.bind (gR σ15 (64 * o19 + 0)) fun o20 =>
kf_let (a0 + 8 : Int32) fun x21 =>
kf_in x21 (mm_kd o20).2.2 <|
kf_c2 (F_Picture_kindHas n (gB σ15 o17 x18.toNatClampNeg) (gB σ15 o20 x21.toNatClampNeg) σ15) fun x22 σ23 =>
if x22 = 0 then (
some (9, σ23)) else (
Option.bind (gR σ23 (64 * t + 0)) fun o24 =>
Option.bind (gR σ23 (64 * o24 + 0)) fun o25 =>
kf_let (a0 + 10 : Int32) fun x26 =>
kf_in x26 (mm_kd o25).2.2 <|
if (gB σ23 o25 x26.toNatClampNeg) = 0 then (
Option.bind (gR σ23 (64 * t + 0)) fun o27 =>
Option.bind (gR σ23 (64 * o27 + 0)) fun o28 =>
kf_let (a0 + 11 : Int32) fun x29 =>
kf_in x29 (mm_kd o28).2.2 <|
if (gB σ23 o28 x29.toNatClampNeg) = 0 then (
Option.bind (gR σ23 (64 * t + 0)) fun o30 =>
Option.bind (gR σ23 (64 * o30 + 0)) fun o31 =>
kf_let (a0 + 12 : Int32) fun x32 =>
kf_in x32 (mm_kd o31).2.2 <|
kf_j (α := Int32) (fun x34 σ35 =>
some (x34, σ35)) fun k33 =>
if (gB σ23 o31 x32.toNatClampNeg) ≤ 1 then (
k33 (-1) σ23) else (
k33 12 σ23)) else (
some (11, σ23))) else (
some (10, σ23))))))
theorem d_Pieces_wrongInHeader_0 : decode prog_8_method_8_code 0 = .ok (.aload_n 0, 1) := by decide +kernel
theorem d_Pieces_wrongInHeader_1 : decode prog_8_method_8_code 1 = .ok (.getfield 9, 3) := by decide +kernel
theorem d_Pieces_wrongInHeader_4 : decode prog_8_method_8_code 4 = .ok (.iload_n 1, 1) := by decide +kernel
theorem d_Pieces_wrongInHeader_5 : decode prog_8_method_8_code 5 = .ok (.invokevirtual 73, 3) := by decide +kernel
theorem d_Pieces_wrongInHeader_8 : decode prog_8_method_8_code 8 = .ok (.invokestatic 119, 3) := by decide +kernel
theorem d_Pieces_wrongInHeader_11 : decode prog_8_method_8_code 11 = .ok (.ifCond .ne 5, 3) := by decide +kernel
theorem d_Pieces_wrongInHeader_14 : decode prog_8_method_8_code 14 = .ok (.iconst 0, 1) := by decide +kernel
theorem d_Pieces_wrongInHeader_15 : decode prog_8_method_8_code 15 = .ok (.ireturn, 1) := by decide +kernel
theorem d_Pieces_wrongInHeader_16 : decode prog_8_method_8_code 16 = .ok (.aload_n 0, 1) := by decide +kernel
theorem d_Pieces_wrongInHeader_17 : decode prog_8_method_8_code 17 = .ok (.getfield 9, 3) := by decide +kernel
theorem d_Pieces_wrongInHeader_20 : decode prog_8_method_8_code 20 = .ok (.iload_n 1, 1) := by decide +kernel
theorem d_Pieces_wrongInHeader_21 : decode prog_8_method_8_code 21 = .ok (.iconst 4, 1) := by decide +kernel
theorem d_Pieces_wrongInHeader_22 : decode prog_8_method_8_code 22 = .ok (.iadd, 1) := by decide +kernel
theorem d_Pieces_wrongInHeader_23 : decode prog_8_method_8_code 23 = .ok (.invokevirtual 73, 3) := by decide +kernel
theorem d_Pieces_wrongInHeader_26 : decode prog_8_method_8_code 26 = .ok (.invokestatic 119, 3) := by decide +kernel
theorem d_Pieces_wrongInHeader_29 : decode prog_8_method_8_code 29 = .ok (.ifCond .ne 5, 3) := by decide +kernel
theorem d_Pieces_wrongInHeader_32 : decode prog_8_method_8_code 32 = .ok (.iconst 4, 1) := by decide +kernel
theorem d_Pieces_wrongInHeader_33 : decode prog_8_method_8_code 33 = .ok (.ireturn, 1) := by decide +kernel
theorem d_Pieces_wrongInHeader_34 : decode prog_8_method_8_code 34 = .ok (.aload_n 0, 1) := by decide +kernel
theorem d_Pieces_wrongInHeader_35 : decode prog_8_method_8_code 35 = .ok (.getfield 9, 3) := by decide +kernel
theorem d_Pieces_wrongInHeader_38 : decode prog_8_method_8_code 38 = .ok (.getfield 55, 3) := by decide +kernel
theorem d_Pieces_wrongInHeader_41 : decode prog_8_method_8_code 41 = .ok (.iload_n 1, 1) := by decide +kernel
theorem d_Pieces_wrongInHeader_42 : decode prog_8_method_8_code 42 = .ok (.bipush 8, 2) := by decide +kernel
theorem d_Pieces_wrongInHeader_44 : decode prog_8_method_8_code 44 = .ok (.iadd, 1) := by decide +kernel
theorem d_Pieces_wrongInHeader_45 : decode prog_8_method_8_code 45 = .ok (.iaload, 1) := by decide +kernel
theorem d_Pieces_wrongInHeader_46 : decode prog_8_method_8_code 46 = .ok (.invokestatic 122, 3) := by decide +kernel
theorem d_Pieces_wrongInHeader_49 : decode prog_8_method_8_code 49 = .ok (.ifCond .ne 6, 3) := by decide +kernel
theorem d_Pieces_wrongInHeader_52 : decode prog_8_method_8_code 52 = .ok (.bipush 8, 2) := by decide +kernel
theorem d_Pieces_wrongInHeader_54 : decode prog_8_method_8_code 54 = .ok (.ireturn, 1) := by decide +kernel
theorem d_Pieces_wrongInHeader_55 : decode prog_8_method_8_code 55 = .ok (.aload_n 0, 1) := by decide +kernel
theorem d_Pieces_wrongInHeader_56 : decode prog_8_method_8_code 56 = .ok (.getfield 9, 3) := by decide +kernel
theorem d_Pieces_wrongInHeader_59 : decode prog_8_method_8_code 59 = .ok (.getfield 55, 3) := by decide +kernel
theorem d_Pieces_wrongInHeader_62 : decode prog_8_method_8_code 62 = .ok (.iload_n 1, 1) := by decide +kernel
theorem d_Pieces_wrongInHeader_63 : decode prog_8_method_8_code 63 = .ok (.bipush 9, 2) := by decide +kernel
theorem d_Pieces_wrongInHeader_65 : decode prog_8_method_8_code 65 = .ok (.iadd, 1) := by decide +kernel
theorem d_Pieces_wrongInHeader_66 : decode prog_8_method_8_code 66 = .ok (.iaload, 1) := by decide +kernel
theorem d_Pieces_wrongInHeader_67 : decode prog_8_method_8_code 67 = .ok (.aload_n 0, 1) := by decide +kernel
theorem d_Pieces_wrongInHeader_68 : decode prog_8_method_8_code 68 = .ok (.getfield 9, 3) := by decide +kernel
theorem d_Pieces_wrongInHeader_71 : decode prog_8_method_8_code 71 = .ok (.getfield 55, 3) := by decide +kernel
theorem d_Pieces_wrongInHeader_74 : decode prog_8_method_8_code 74 = .ok (.iload_n 1, 1) := by decide +kernel
theorem d_Pieces_wrongInHeader_75 : decode prog_8_method_8_code 75 = .ok (.bipush 8, 2) := by decide +kernel
theorem d_Pieces_wrongInHeader_77 : decode prog_8_method_8_code 77 = .ok (.iadd, 1) := by decide +kernel
theorem d_Pieces_wrongInHeader_78 : decode prog_8_method_8_code 78 = .ok (.iaload, 1) := by decide +kernel
theorem d_Pieces_wrongInHeader_79 : decode prog_8_method_8_code 79 = .ok (.invokestatic 125, 3) := by decide +kernel
theorem d_Pieces_wrongInHeader_82 : decode prog_8_method_8_code 82 = .ok (.ifCond .ne 6, 3) := by decide +kernel
theorem d_Pieces_wrongInHeader_85 : decode prog_8_method_8_code 85 = .ok (.bipush 9, 2) := by decide +kernel
theorem d_Pieces_wrongInHeader_87 : decode prog_8_method_8_code 87 = .ok (.ireturn, 1) := by decide +kernel
theorem d_Pieces_wrongInHeader_88 : decode prog_8_method_8_code 88 = .ok (.aload_n 0, 1) := by decide +kernel
theorem d_Pieces_wrongInHeader_89 : decode prog_8_method_8_code 89 = .ok (.getfield 9, 3) := by decide +kernel
theorem d_Pieces_wrongInHeader_92 : decode prog_8_method_8_code 92 = .ok (.getfield 55, 3) := by decide +kernel
theorem d_Pieces_wrongInHeader_95 : decode prog_8_method_8_code 95 = .ok (.iload_n 1, 1) := by decide +kernel
theorem d_Pieces_wrongInHeader_96 : decode prog_8_method_8_code 96 = .ok (.bipush 10, 2) := by decide +kernel
theorem d_Pieces_wrongInHeader_98 : decode prog_8_method_8_code 98 = .ok (.iadd, 1) := by decide +kernel
theorem d_Pieces_wrongInHeader_99 : decode prog_8_method_8_code 99 = .ok (.iaload, 1) := by decide +kernel
theorem d_Pieces_wrongInHeader_100 : decode prog_8_method_8_code 100 = .ok (.ifCond .eq 6, 3) := by decide +kernel
theorem d_Pieces_wrongInHeader_103 : decode prog_8_method_8_code 103 = .ok (.bipush 10, 2) := by decide +kernel
theorem d_Pieces_wrongInHeader_105 : decode prog_8_method_8_code 105 = .ok (.ireturn, 1) := by decide +kernel
theorem d_Pieces_wrongInHeader_106 : decode prog_8_method_8_code 106 = .ok (.aload_n 0, 1) := by decide +kernel
theorem d_Pieces_wrongInHeader_107 : decode prog_8_method_8_code 107 = .ok (.getfield 9, 3) := by decide +kernel
theorem d_Pieces_wrongInHeader_110 : decode prog_8_method_8_code 110 = .ok (.getfield 55, 3) := by decide +kernel
theorem d_Pieces_wrongInHeader_113 : decode prog_8_method_8_code 113 = .ok (.iload_n 1, 1) := by decide +kernel
theorem d_Pieces_wrongInHeader_114 : decode prog_8_method_8_code 114 = .ok (.bipush 11, 2) := by decide +kernel
theorem d_Pieces_wrongInHeader_116 : decode prog_8_method_8_code 116 = .ok (.iadd, 1) := by decide +kernel
theorem d_Pieces_wrongInHeader_117 : decode prog_8_method_8_code 117 = .ok (.iaload, 1) := by decide +kernel
theorem d_Pieces_wrongInHeader_118 : decode prog_8_method_8_code 118 = .ok (.ifCond .eq 6, 3) := by decide +kernel
theorem d_Pieces_wrongInHeader_121 : decode prog_8_method_8_code 121 = .ok (.bipush 11, 2) := by decide +kernel
theorem d_Pieces_wrongInHeader_123 : decode prog_8_method_8_code 123 = .ok (.ireturn, 1) := by decide +kernel
theorem d_Pieces_wrongInHeader_124 : decode prog_8_method_8_code 124 = .ok (.aload_n 0, 1) := by decide +kernel
theorem d_Pieces_wrongInHeader_125 : decode prog_8_method_8_code 125 = .ok (.getfield 9, 3) := by decide +kernel
theorem d_Pieces_wrongInHeader_128 : decode prog_8_method_8_code 128 = .ok (.getfield 55, 3) := by decide +kernel
theorem d_Pieces_wrongInHeader_131 : decode prog_8_method_8_code 131 = .ok (.iload_n 1, 1) := by decide +kernel
theorem d_Pieces_wrongInHeader_132 : decode prog_8_method_8_code 132 = .ok (.bipush 12, 2) := by decide +kernel
theorem d_Pieces_wrongInHeader_134 : decode prog_8_method_8_code 134 = .ok (.iadd, 1) := by decide +kernel
theorem d_Pieces_wrongInHeader_135 : decode prog_8_method_8_code 135 = .ok (.iaload, 1) := by decide +kernel
theorem d_Pieces_wrongInHeader_136 : decode prog_8_method_8_code 136 = .ok (.iconst 1, 1) := by decide +kernel
theorem d_Pieces_wrongInHeader_137 : decode prog_8_method_8_code 137 = .ok (.if_icmp .le 8, 3) := by decide +kernel
theorem d_Pieces_wrongInHeader_140 : decode prog_8_method_8_code 140 = .ok (.bipush 12, 2) := by decide +kernel
theorem d_Pieces_wrongInHeader_142 : decode prog_8_method_8_code 142 = .ok (.goto 4, 3) := by decide +kernel
theorem d_Pieces_wrongInHeader_145 : decode prog_8_method_8_code 145 = .ok (.iconst (-1), 1) := by decide +kernel
theorem d_Pieces_wrongInHeader_146 : decode prog_8_method_8_code 146 = .ok (.ireturn, 1) := by decide +kernel
set_option maxRecDepth 100000 in
set_option maxHeartbeats 4000000 in
theorem c_Pieces_wrongInHeader {l0 : Launch} (hl : l0.stackTraces = false) (n : Nat) (ids : List Nat) {t : Nat} (ht : mm_ok ids t 1 5) (a0 : Int32) (σ : Mm) : kw_C l0 y_Pieces_wrongInHeader (Cond.code y_Pieces_wrongInHeader prog_8_method_8_code 2 (some .int) :: kw_Ts) rm_Pieces_wrongInHeader kw_oi ids [] [.ref t, .int a0] σ (F_Pieces_wrongInHeader n t a0 σ) := by
  refine kw_start (L0 := [some (.ref t), some (.int a0)]) hl (by decide +kernel) (Nat.le_of_ble_eq_true rfl) rfl (fun Γ ad C Ce => ?_)
  unfold F_Pieces_wrongInHeader
  refine kw_aload_n C d_Pieces_wrongInHeader_0 rfl ?_
  refine kw_getR C fi_Pieces_9 rfl rfl ht d_Pieces_wrongInHeader_1 (fun o1 ho1 => ?_)
  refine kw_iload_n C d_Pieces_wrongInHeader_4 rfl ?_
  refine kw_callVi (cl' := 0) (sl' := 0) (As := [.int a0]) C (c_Tape_number hl n ids ho1 a0 σ) mi_Pieces_73 v_Tape_number ⟨_, _, rfl⟩ ho1 ⟨Nat.le_of_ble_eq_true rfl, Nat.le_of_ble_eq_true rfl⟩ (Nat.le_of_ble_eq_true rfl) ⟨Nat.le_of_ble_eq_true rfl, Nat.le_of_ble_eq_true rfl⟩ ⟨rfl, rfl⟩ rfl d_Pieces_wrongInHeader_5 (fun x2 σ3 => ?_)
  refine kw_callSi (cl' := 0) (sl' := 0) (As := [.int x2]) C (c_Picture_isSize hl n ids  x2 σ3) mi_Pieces_119 s_Picture_isSize ⟨Nat.le_of_ble_eq_true rfl, Nat.le_of_ble_eq_true rfl⟩ (Nat.le_of_ble_eq_true rfl) ⟨Nat.le_of_ble_eq_true rfl, Nat.le_of_ble_eq_true rfl⟩ ⟨rfl, rfl⟩ rfl d_Pieces_wrongInHeader_8 (fun x4 σ5 => ?_)
  refine kw_if_ne (tgt := 16) C d_Pieces_wrongInHeader_11 (by decide) ?_ ?_
  · refine kw_aload_n C d_Pieces_wrongInHeader_16 rfl ?_
    refine kw_getR C fi_Pieces_9 rfl rfl ht d_Pieces_wrongInHeader_17 (fun o6 ho6 => ?_)
    refine kw_iload_n C d_Pieces_wrongInHeader_20 rfl ?_
    refine kw_iconst (v := 4) C d_Pieces_wrongInHeader_21 (by decide) ?_
    refine kw_iadd C d_Pieces_wrongInHeader_22 ?_
    refine kw_callVi (cl' := 0) (sl' := 0) (As := [.int (a0 + 4)]) C (c_Tape_number hl n ids ho6 (a0 + 4) σ5) mi_Pieces_73 v_Tape_number ⟨_, _, rfl⟩ ho6 ⟨Nat.le_of_ble_eq_true rfl, Nat.le_of_ble_eq_true rfl⟩ (Nat.le_of_ble_eq_true rfl) ⟨Nat.le_of_ble_eq_true rfl, Nat.le_of_ble_eq_true rfl⟩ ⟨rfl, rfl⟩ rfl d_Pieces_wrongInHeader_23 (fun x7 σ8 => ?_)
    refine kw_callSi (cl' := 0) (sl' := 0) (As := [.int x7]) C (c_Picture_isSize hl n ids  x7 σ8) mi_Pieces_119 s_Picture_isSize ⟨Nat.le_of_ble_eq_true rfl, Nat.le_of_ble_eq_true rfl⟩ (Nat.le_of_ble_eq_true rfl) ⟨Nat.le_of_ble_eq_true rfl, Nat.le_of_ble_eq_true rfl⟩ ⟨rfl, rfl⟩ rfl d_Pieces_wrongInHeader_26 (fun x9 σ10 => ?_)
    refine kw_if_ne (tgt := 34) C d_Pieces_wrongInHeader_29 (by decide) ?_ ?_
    · refine kw_aload_n C d_Pieces_wrongInHeader_34 rfl ?_
      refine kw_getR C fi_Pieces_9 rfl rfl ht d_Pieces_wrongInHeader_35 (fun o11 ho11 => ?_)
      refine kw_getR C fi_Pieces_55 rfl rfl ho11 d_Pieces_wrongInHeader_38 (fun o12 ho12 => ?_)
      refine kw_iload_n C d_Pieces_wrongInHeader_41 rfl ?_
      refine kw_bipush (v := 8) C d_Pieces_wrongInHeader_42 (by decide) ?_
      refine kw_iadd C d_Pieces_wrongInHeader_44 ?_
      refine kw_leti (fun x13 => ?_)
      refine kw_iald C (Or.inl ⟨ho12.1, ho12.2.1⟩) d_Pieces_wrongInHeader_45 ?_
      refine kw_callSi (cl' := 0) (sl' := 0) (As := [.int (gB σ10 o12 x13.toNatClampNeg)]) C (c_Picture_isDepth hl n ids  (gB σ10 o12 x13.toNatClampNeg) σ10) mi_Pieces_122 s_Picture_isDepth ⟨Nat.le_of_ble_eq_true rfl, Nat.le_of_ble_eq_true rfl⟩ (Nat.le_of_ble_eq_true rfl) ⟨Nat.le_of_ble_eq_true rfl, Nat.le_of_ble_eq_true rfl⟩ ⟨rfl, rfl⟩ rfl d_Pieces_wrongInHeader_46 (fun x14 σ15 => ?_)
      refine kw_if_ne (tgt := 55) C d_Pieces_wrongInHeader_49 (by decide) ?_ ?_
      · refine kw_aload_n C d_Pieces_wrongInHeader_55 rfl ?_
        refine kw_getR C fi_Pieces_9 rfl rfl ht d_Pieces_wrongInHeader_56 (fun o16 ho16 => ?_)
        refine kw_getR C fi_Pieces_55 rfl rfl ho16 d_Pieces_wrongInHeader_59 (fun o17 ho17 => ?_)
        refine kw_iload_n C d_Pieces_wrongInHeader_62 rfl ?_
        refine kw_bipush (v := 9) C d_Pieces_wrongInHeader_63 (by decide) ?_
        refine kw_iadd C d_Pieces_wrongInHeader_65 ?_
        refine kw_leti (fun x18 => ?_)
        refine kw_iald C (Or.inl ⟨ho17.1, ho17.2.1⟩) d_Pieces_wrongInHeader_66 ?_
        refine kw_aload_n C d_Pieces_wrongInHeader_67 rfl ?_
        refine kw_getR C fi_Pieces_9 rfl rfl ht d_Pieces_wrongInHeader_68 (fun o19 ho19 => ?_)
        refine kw_getR C fi_Pieces_55 rfl rfl ho19 d_Pieces_wrongInHeader_71 (fun o20 ho20 => ?_)
        refine kw_iload_n C d_Pieces_wrongInHeader_74 rfl ?_
        refine kw_bipush (v := 8) C d_Pieces_wrongInHeader_75 (by decide) ?_
        refine kw_iadd C d_Pieces_wrongInHeader_77 ?_
        refine kw_leti (fun x21 => ?_)
        refine kw_iald C (Or.inl ⟨ho20.1, ho20.2.1⟩) d_Pieces_wrongInHeader_78 ?_
        refine kw_callSi (cl' := 0) (sl' := 0) (As := [.int (gB σ15 o17 x18.toNatClampNeg), .int (gB σ15 o20 x21.toNatClampNeg)]) C (c_Picture_kindHas hl n ids  (gB σ15 o17 x18.toNatClampNeg) (gB σ15 o20 x21.toNatClampNeg) σ15) mi_Pieces_125 s_Picture_kindHas ⟨Nat.le_of_ble_eq_true rfl, Nat.le_of_ble_eq_true rfl⟩ (Nat.le_of_ble_eq_true rfl) ⟨Nat.le_of_ble_eq_true rfl, Nat.le_of_ble_eq_true rfl⟩ ⟨rfl, rfl⟩ rfl d_Pieces_wrongInHeader_79 (fun x22 σ23 => ?_)
        refine kw_if_ne (tgt := 88) C d_Pieces_wrongInHeader_82 (by decide) ?_ ?_
        · refine kw_aload_n C d_Pieces_wrongInHeader_88 rfl ?_
          refine kw_getR C fi_Pieces_9 rfl rfl ht d_Pieces_wrongInHeader_89 (fun o24 ho24 => ?_)
          refine kw_getR C fi_Pieces_55 rfl rfl ho24 d_Pieces_wrongInHeader_92 (fun o25 ho25 => ?_)
          refine kw_iload_n C d_Pieces_wrongInHeader_95 rfl ?_
          refine kw_bipush (v := 10) C d_Pieces_wrongInHeader_96 (by decide) ?_
          refine kw_iadd C d_Pieces_wrongInHeader_98 ?_
          refine kw_leti (fun x26 => ?_)
          refine kw_iald C (Or.inl ⟨ho25.1, ho25.2.1⟩) d_Pieces_wrongInHeader_99 ?_
          refine kw_if_eq (tgt := 106) C d_Pieces_wrongInHeader_100 (by decide) ?_ ?_
          · refine kw_aload_n C d_Pieces_wrongInHeader_106 rfl ?_
            refine kw_getR C fi_Pieces_9 rfl rfl ht d_Pieces_wrongInHeader_107 (fun o27 ho27 => ?_)
            refine kw_getR C fi_Pieces_55 rfl rfl ho27 d_Pieces_wrongInHeader_110 (fun o28 ho28 => ?_)
            refine kw_iload_n C d_Pieces_wrongInHeader_113 rfl ?_
            refine kw_bipush (v := 11) C d_Pieces_wrongInHeader_114 (by decide) ?_
            refine kw_iadd C d_Pieces_wrongInHeader_116 ?_
            refine kw_leti (fun x29 => ?_)
            refine kw_iald C (Or.inl ⟨ho28.1, ho28.2.1⟩) d_Pieces_wrongInHeader_117 ?_
            refine kw_if_eq (tgt := 124) C d_Pieces_wrongInHeader_118 (by decide) ?_ ?_
            · refine kw_aload_n C d_Pieces_wrongInHeader_124 rfl ?_
              refine kw_getR C fi_Pieces_9 rfl rfl ht d_Pieces_wrongInHeader_125 (fun o30 ho30 => ?_)
              refine kw_getR C fi_Pieces_55 rfl rfl ho30 d_Pieces_wrongInHeader_128 (fun o31 ho31 => ?_)
              refine kw_iload_n C d_Pieces_wrongInHeader_131 rfl ?_
              refine kw_bipush (v := 12) C d_Pieces_wrongInHeader_132 (by decide) ?_
              refine kw_iadd C d_Pieces_wrongInHeader_134 ?_
              refine kw_leti (fun x32 => ?_)
              refine kw_iald C (Or.inl ⟨ho31.1, ho31.2.1⟩) d_Pieces_wrongInHeader_135 ?_
              refine kw_iconst (v := 1) C d_Pieces_wrongInHeader_136 (by decide) ?_
              refine kw_j (α := Int32) (pcj := 146) (Lj := fun x34 => [none, none]) (stj := fun x34 => [.int x34]) (fun x34 σ35 => ?_) (fun k33 hk33 => ?_)
              · exact kw_iret C Ce rfl (by simp) (fun _ _ => rfl) (Nat.le_of_ble_eq_true rfl) (Nat.le_of_ble_eq_true rfl) rfl d_Pieces_wrongInHeader_146
              · refine kw_icmp_le (tgt := 145) C d_Pieces_wrongInHeader_137 (by decide) ?_ ?_
                · refine kw_iconst (v := -1) C d_Pieces_wrongInHeader_145 (by decide) ?_
                  exact kw_wk (hk33 (-1) σ23) ⟨Or.inl rfl, Or.inl rfl, trivial⟩
                · refine kw_bipush (v := 12) C d_Pieces_wrongInHeader_140 (by decide) ?_
                  refine kw_goto (tgt := 146) C d_Pieces_wrongInHeader_142 (by decide) ?_
                  exact kw_wk (hk33 12 σ23) ⟨Or.inl rfl, Or.inl rfl, trivial⟩
            · refine kw_bipush (v := 11) C d_Pieces_wrongInHeader_121 (by decide) ?_
              exact kw_iret C Ce rfl (by simp) (fun _ _ => rfl) (Nat.le_of_ble_eq_true rfl) (Nat.le_of_ble_eq_true rfl) rfl d_Pieces_wrongInHeader_123
          · refine kw_bipush (v := 10) C d_Pieces_wrongInHeader_103 (by decide) ?_
            exact kw_iret C Ce rfl (by simp) (fun _ _ => rfl) (Nat.le_of_ble_eq_true rfl) (Nat.le_of_ble_eq_true rfl) rfl d_Pieces_wrongInHeader_105
        · refine kw_bipush (v := 9) C d_Pieces_wrongInHeader_85 (by decide) ?_
          exact kw_iret C Ce rfl (by simp) (fun _ _ => rfl) (Nat.le_of_ble_eq_true rfl) (Nat.le_of_ble_eq_true rfl) rfl d_Pieces_wrongInHeader_87
      · refine kw_bipush (v := 8) C d_Pieces_wrongInHeader_52 (by decide) ?_
        exact kw_iret C Ce rfl (by simp) (fun _ _ => rfl) (Nat.le_of_ble_eq_true rfl) (Nat.le_of_ble_eq_true rfl) rfl d_Pieces_wrongInHeader_54
    · refine kw_iconst (v := 4) C d_Pieces_wrongInHeader_32 (by decide) ?_
      exact kw_iret C Ce rfl (by simp) (fun _ _ => rfl) (Nat.le_of_ble_eq_true rfl) (Nat.le_of_ble_eq_true rfl) rfl d_Pieces_wrongInHeader_33
  · refine kw_iconst (v := 0) C d_Pieces_wrongInHeader_14 (by decide) ?_
    exact kw_iret C Ce rfl (by simp) (fun _ _ => rfl) (Nat.le_of_ble_eq_true rfl) (Nat.le_of_ble_eq_true rfl) rfl d_Pieces_wrongInHeader_15
/-! Picture_channelsOf -/
def rm_Picture_channelsOf : Room := { frames := 0, cells := 0, slots := 0, locals := 0 }
def F_Picture_channelsOf (n : Nat) (a0 : Int32) (σ : Mm) : Option (Int32 × Mm) :=
if a0 = 2 then (
some (3, σ)) else (
if a0 = 3 then (
some (1, σ)) else (
if a0 = 4 then (
some (2, σ)) else (
if a0 = 5 then (
some (1, σ)) else (
if a0 = 6 then (
some (4, σ)) else (
some (1, σ))))))
theorem d_Picture_channelsOf_0 : decode prog_7_method_7_code 0 = .ok (.iload_n 0, 1) := by decide +kernel
theorem d_Picture_channelsOf_1 : decode prog_7_method_7_code 1 = .ok (.tableswitch 41 2 6 #[35, 41, 37, 41, 39], 35) := by decide +kernel
theorem d_Picture_channelsOf_36 : decode prog_7_method_7_code 36 = .ok (.iconst 3, 1) := by decide +kernel
theorem d_Picture_channelsOf_37 : decode prog_7_method_7_code 37 = .ok (.ireturn, 1) := by decide +kernel
theorem d_Picture_channelsOf_38 : decode prog_7_method_7_code 38 = .ok (.iconst 2, 1) := by decide +kernel
theorem d_Picture_channelsOf_39 : decode prog_7_method_7_code 39 = .ok (.ireturn, 1) := by decide +kernel
theorem d_Picture_channelsOf_40 : decode prog_7_method_7_code 40 = .ok (.iconst 4, 1) := by decide +kernel
theorem d_Picture_channelsOf_41 : decode prog_7_method_7_code 41 = .ok (.ireturn, 1) := by decide +kernel
theorem d_Picture_channelsOf_42 : decode prog_7_method_7_code 42 = .ok (.iconst 1, 1) := by decide +kernel
theorem d_Picture_channelsOf_43 : decode prog_7_method_7_code 43 = .ok (.ireturn, 1) := by decide +kernel
set_option maxRecDepth 100000 in
set_option maxHeartbeats 4000000 in
theorem c_Picture_channelsOf {l0 : Launch} (hl : l0.stackTraces = false) (n : Nat) (ids : List Nat)  (a0 : Int32) (σ : Mm) : kw_C l0 y_Picture_channelsOf (Cond.code y_Picture_channelsOf prog_7_method_7_code 1 (some .int) :: kw_Ts) rm_Picture_channelsOf kw_oi ids [] [.int a0] σ (F_Picture_channelsOf n a0 σ) := by
  refine kw_start (L0 := [some (.int a0)]) hl (by decide +kernel) (Nat.le_of_ble_eq_true rfl) rfl (fun Γ ad C Ce => ?_)
  unfold F_Picture_channelsOf
  refine kw_iload_n C d_Picture_channelsOf_0 rfl ?_
  refine kw_sw ?_ (fun hn1 => ?_)
  · refine kw_tsIn (off := 35) (tgt := 36) C d_Picture_channelsOf_1 (by decide) (by decide) (by decide) (by decide) ?_
    refine kw_iconst (v := 3) C d_Picture_channelsOf_36 (by decide) ?_
    exact kw_iret C Ce rfl (by simp) (fun _ _ => rfl) (Nat.le_of_ble_eq_true rfl) (Nat.le_of_ble_eq_true rfl) rfl d_Picture_channelsOf_37
  refine kw_sw ?_ (fun hn2 => ?_)
  · refine kw_tsIn (off := 41) (tgt := 42) C d_Picture_channelsOf_1 (by decide) (by decide) (by decide) (by decide) ?_
    refine kw_iconst (v := 1) C d_Picture_channelsOf_42 (by decide) ?_
    exact kw_iret C Ce rfl (by simp) (fun _ _ => rfl) (Nat.le_of_ble_eq_true rfl) (Nat.le_of_ble_eq_true rfl) rfl d_Picture_channelsOf_43
  refine kw_sw ?_ (fun hn3 => ?_)
  · refine kw_tsIn (off := 37) (tgt := 38) C d_Picture_channelsOf_1 (by decide) (by decide) (by decide) (by decide) ?_
    refine kw_iconst (v := 2) C d_Picture_channelsOf_38 (by decide) ?_
    exact kw_iret C Ce rfl (by simp) (fun _ _ => rfl) (Nat.le_of_ble_eq_true rfl) (Nat.le_of_ble_eq_true rfl) rfl d_Picture_channelsOf_39
  refine kw_sw ?_ (fun hn4 => ?_)
  · refine kw_tsIn (off := 41) (tgt := 42) C d_Picture_channelsOf_1 (by decide) (by decide) (by decide) (by decide) ?_
    refine kw_iconst (v := 1) C d_Picture_channelsOf_42 (by decide) ?_
    exact kw_iret C Ce rfl (by simp) (fun _ _ => rfl) (Nat.le_of_ble_eq_true rfl) (Nat.le_of_ble_eq_true rfl) rfl d_Picture_channelsOf_43
  refine kw_sw ?_ (fun hn5 => ?_)
  · refine kw_tsIn (off := 39) (tgt := 40) C d_Picture_channelsOf_1 (by decide) (by decide) (by decide) (by decide) ?_
    refine kw_iconst (v := 4) C d_Picture_channelsOf_40 (by decide) ?_
    exact kw_iret C Ce rfl (by simp) (fun _ _ => rfl) (Nat.le_of_ble_eq_true rfl) (Nat.le_of_ble_eq_true rfl) rfl d_Picture_channelsOf_41
  · refine kw_tsOut (tgt := 42) C d_Picture_channelsOf_1 (kw_tso (lo := 2) (hi := 6) a0 (fun k h1 h2 => by rcases (show k = 2 ∨ k = 3 ∨ k = 4 ∨ k = 5 ∨ k = 6 by omega) with rfl | rfl | rfl | rfl | rfl; exact kw_ni hn1 (by decide); exact kw_ni hn2 (by decide); exact kw_ni hn3 (by decide); exact kw_ni hn4 (by decide); exact kw_ni hn5 (by decide))) (by decide) ?_
    refine kw_iconst (v := 1) C d_Picture_channelsOf_42 (by decide) ?_
    exact kw_iret C Ce rfl (by simp) (fun _ _ => rfl) (Nat.le_of_ble_eq_true rfl) (Nat.le_of_ble_eq_true rfl) rfl d_Picture_channelsOf_43
/-! Layout_addRow -/
def rm_Layout_addRow : Room := { frames := 0, cells := 0, slots := 0, locals := 0 }
def F_Layout_addRow (n : Nat) (t : Nat) (a0 : Int32) (a1 : Int32) (a2 : Int32) (a3 : Int32) (a4 : Int32) (σ : Mm) : Option (Mm) :=
Option.bind (gR σ (64 * t + 3)) fun o1 =>
kf_in (gS σ (64 * t + 0)) (mm_kd o1).2.2 <| kf_let (pB σ o1 (gS σ (64 * t + 0)).toNatClampNeg a0) fun σ2 =>
Option.bind (gR σ2 (64 * t + 4)) fun o3 =>
kf_in (gS σ2 (64 * t + 0)) (mm_kd o3).2.2 <| kf_let (pB σ2 o3 (gS σ2 (64 * t + 0)).toNatClampNeg a1) fun σ4 =>
Option.bind (gR σ4 (64 * t + 5)) fun o5 =>
kf_in (gS σ4 (64 * t + 0)) (mm_kd o5).2.2 <| kf_let (pB σ4 o5 (gS σ4 (64 * t + 0)).toNatClampNeg a2) fun σ6 =>
Option.bind (gR σ6 (64 * t + 6)) fun o7 =>
kf_in (gS σ6 (64 * t + 0)) (mm_kd o7).2.2 <| kf_let (pB σ6 o7 (gS σ6 (64 * t + 0)).toNatClampNeg a3) fun σ8 =>
Option.bind (gR σ8 (64 * t + 7)) fun o9 =>
kf_in (gS σ8 (64 * t + 0)) (mm_kd o9).2.2 <| kf_let (pB σ8 o9 (gS σ8 (64 * t + 0)).toNatClampNeg (gS σ8 (64 * t + 1))) fun σ10 =>
Option.bind (gR σ10 (64 * t + 8)) fun o11 =>
kf_in (gS σ10 (64 * t + 0)) (mm_kd o11).2.2 <| kf_let (pB σ10 o11 (gS σ10 (64 * t + 0)).toNatClampNeg a4) fun σ12 =>
kf_let (pS σ12 (64 * t + 1) ((gS σ12 (64 * t + 1)) + ((1 : Int32) + a4))) fun σ13 =>
kf_let (pS σ13 (64 * t + 0) ((gS σ13 (64 * t + 0)) + 1)) fun σ14 =>
some σ14
theorem d_Layout_addRow_0 : decode prog_4_method_3_code 0 = .ok (.aload_n 0, 1) := by decide +kernel
theorem d_Layout_addRow_1 : decode prog_4_method_3_code 1 = .ok (.getfield 9, 3) := by decide +kernel
theorem d_Layout_addRow_4 : decode prog_4_method_3_code 4 = .ok (.aload_n 0, 1) := by decide +kernel
theorem d_Layout_addRow_5 : decode prog_4_method_3_code 5 = .ok (.getfield 31, 3) := by decide +kernel
theorem d_Layout_addRow_8 : decode prog_4_method_3_code 8 = .ok (.iload_n 1, 1) := by decide +kernel
theorem d_Layout_addRow_9 : decode prog_4_method_3_code 9 = .ok (.iastore, 1) := by decide +kernel
theorem d_Layout_addRow_10 : decode prog_4_method_3_code 10 = .ok (.aload_n 0, 1) := by decide +kernel
theorem d_Layout_addRow_11 : decode prog_4_method_3_code 11 = .ok (.getfield 13, 3) := by decide +kernel
theorem d_Layout_addRow_14 : decode prog_4_method_3_code 14 = .ok (.aload_n 0, 1) := by decide +kernel
theorem d_Layout_addRow_15 : decode prog_4_method_3_code 15 = .ok (.getfield 31, 3) := by decide +kernel
theorem d_Layout_addRow_18 : decode prog_4_method_3_code 18 = .ok (.iload_n 2, 1) := by decide +kernel
theorem d_Layout_addRow_19 : decode prog_4_method_3_code 19 = .ok (.iastore, 1) := by decide +kernel
theorem d_Layout_addRow_20 : decode prog_4_method_3_code 20 = .ok (.aload_n 0, 1) := by decide +kernel
theorem d_Layout_addRow_21 : decode prog_4_method_3_code 21 = .ok (.getfield 16, 3) := by decide +kernel
theorem d_Layout_addRow_24 : decode prog_4_method_3_code 24 = .ok (.aload_n 0, 1) := by decide +kernel
theorem d_Layout_addRow_25 : decode prog_4_method_3_code 25 = .ok (.getfield 31, 3) := by decide +kernel
theorem d_Layout_addRow_28 : decode prog_4_method_3_code 28 = .ok (.iload_n 3, 1) := by decide +kernel
theorem d_Layout_addRow_29 : decode prog_4_method_3_code 29 = .ok (.iastore, 1) := by decide +kernel
theorem d_Layout_addRow_30 : decode prog_4_method_3_code 30 = .ok (.aload_n 0, 1) := by decide +kernel
theorem d_Layout_addRow_31 : decode prog_4_method_3_code 31 = .ok (.getfield 19, 3) := by decide +kernel
theorem d_Layout_addRow_34 : decode prog_4_method_3_code 34 = .ok (.aload_n 0, 1) := by decide +kernel
theorem d_Layout_addRow_35 : decode prog_4_method_3_code 35 = .ok (.getfield 31, 3) := by decide +kernel
theorem d_Layout_addRow_38 : decode prog_4_method_3_code 38 = .ok (.iload 4, 2) := by decide +kernel
theorem d_Layout_addRow_40 : decode prog_4_method_3_code 40 = .ok (.iastore, 1) := by decide +kernel
theorem d_Layout_addRow_41 : decode prog_4_method_3_code 41 = .ok (.aload_n 0, 1) := by decide +kernel
theorem d_Layout_addRow_42 : decode prog_4_method_3_code 42 = .ok (.getfield 22, 3) := by decide +kernel
theorem d_Layout_addRow_45 : decode prog_4_method_3_code 45 = .ok (.aload_n 0, 1) := by decide +kernel
theorem d_Layout_addRow_46 : decode prog_4_method_3_code 46 = .ok (.getfield 31, 3) := by decide +kernel
theorem d_Layout_addRow_49 : decode prog_4_method_3_code 49 = .ok (.aload_n 0, 1) := by decide +kernel
theorem d_Layout_addRow_50 : decode prog_4_method_3_code 50 = .ok (.getfield 35, 3) := by decide +kernel
theorem d_Layout_addRow_53 : decode prog_4_method_3_code 53 = .ok (.iastore, 1) := by decide +kernel
theorem d_Layout_addRow_54 : decode prog_4_method_3_code 54 = .ok (.aload_n 0, 1) := by decide +kernel
theorem d_Layout_addRow_55 : decode prog_4_method_3_code 55 = .ok (.getfield 25, 3) := by decide +kernel
theorem d_Layout_addRow_58 : decode prog_4_method_3_code 58 = .ok (.aload_n 0, 1) := by decide +kernel
theorem d_Layout_addRow_59 : decode prog_4_method_3_code 59 = .ok (.getfield 31, 3) := by decide +kernel
theorem d_Layout_addRow_62 : decode prog_4_method_3_code 62 = .ok (.iload 5, 2) := by decide +kernel
theorem d_Layout_addRow_64 : decode prog_4_method_3_code 64 = .ok (.iastore, 1) := by decide +kernel
theorem d_Layout_addRow_65 : decode prog_4_method_3_code 65 = .ok (.aload_n 0, 1) := by decide +kernel
theorem d_Layout_addRow_66 : decode prog_4_method_3_code 66 = .ok (.dup, 1) := by decide +kernel
theorem d_Layout_addRow_67 : decode prog_4_method_3_code 67 = .ok (.getfield 35, 3) := by decide +kernel
theorem d_Layout_addRow_70 : decode prog_4_method_3_code 70 = .ok (.iconst 1, 1) := by decide +kernel
theorem d_Layout_addRow_71 : decode prog_4_method_3_code 71 = .ok (.iload 5, 2) := by decide +kernel
theorem d_Layout_addRow_73 : decode prog_4_method_3_code 73 = .ok (.iadd, 1) := by decide +kernel
theorem d_Layout_addRow_74 : decode prog_4_method_3_code 74 = .ok (.iadd, 1) := by decide +kernel
theorem d_Layout_addRow_75 : decode prog_4_method_3_code 75 = .ok (.putfield 35, 3) := by decide +kernel
theorem d_Layout_addRow_78 : decode prog_4_method_3_code 78 = .ok (.aload_n 0, 1) := by decide +kernel
theorem d_Layout_addRow_79 : decode prog_4_method_3_code 79 = .ok (.dup, 1) := by decide +kernel
theorem d_Layout_addRow_80 : decode prog_4_method_3_code 80 = .ok (.getfield 31, 3) := by decide +kernel
theorem d_Layout_addRow_83 : decode prog_4_method_3_code 83 = .ok (.iconst 1, 1) := by decide +kernel
theorem d_Layout_addRow_84 : decode prog_4_method_3_code 84 = .ok (.iadd, 1) := by decide +kernel
theorem d_Layout_addRow_85 : decode prog_4_method_3_code 85 = .ok (.putfield 31, 3) := by decide +kernel
theorem d_Layout_addRow_88 : decode prog_4_method_3_code 88 = .ok (.return_, 1) := by decide +kernel
set_option maxRecDepth 100000 in
set_option maxHeartbeats 4000000 in
theorem c_Layout_addRow {l0 : Launch} (hl : l0.stackTraces = false) (n : Nat) (ids : List Nat) {t : Nat} (ht : mm_ok ids t 1 11) (a0 : Int32) (a1 : Int32) (a2 : Int32) (a3 : Int32) (a4 : Int32) (σ : Mm) : kw_C l0 y_Layout_addRow (Cond.code y_Layout_addRow prog_4_method_3_code 6 none :: kw_Ts) rm_Layout_addRow kw_ov ids [] [.ref t, .int a0, .int a1, .int a2, .int a3, .int a4] σ (F_Layout_addRow n t a0 a1 a2 a3 a4 σ) := by
  refine kw_start (L0 := [some (.ref t), some (.int a0), some (.int a1), some (.int a2), some (.int a3), some (.int a4)]) hl (by decide +kernel) (Nat.le_of_ble_eq_true rfl) rfl (fun Γ ad C Ce => ?_)
  unfold F_Layout_addRow
  refine kw_aload_n C d_Layout_addRow_0 rfl ?_
  refine kw_getR C fi_Layout_9 rfl rfl ht d_Layout_addRow_1 (fun o1 ho1 => ?_)
  refine kw_aload_n C d_Layout_addRow_4 rfl ?_
  refine kw_getI C fi_Layout_31 (Or.inl rfl) ht d_Layout_addRow_5 ?_
  refine kw_iload_n C d_Layout_addRow_8 rfl ?_
  refine kw_iast C ho1 d_Layout_addRow_9 (fun σ2 => ?_)
  refine kw_aload_n C d_Layout_addRow_10 rfl ?_
  refine kw_getR C fi_Layout_13 rfl rfl ht d_Layout_addRow_11 (fun o3 ho3 => ?_)
  refine kw_aload_n C d_Layout_addRow_14 rfl ?_
  refine kw_getI C fi_Layout_31 (Or.inl rfl) ht d_Layout_addRow_15 ?_
  refine kw_iload_n C d_Layout_addRow_18 rfl ?_
  refine kw_iast C ho3 d_Layout_addRow_19 (fun σ4 => ?_)
  refine kw_aload_n C d_Layout_addRow_20 rfl ?_
  refine kw_getR C fi_Layout_16 rfl rfl ht d_Layout_addRow_21 (fun o5 ho5 => ?_)
  refine kw_aload_n C d_Layout_addRow_24 rfl ?_
  refine kw_getI C fi_Layout_31 (Or.inl rfl) ht d_Layout_addRow_25 ?_
  refine kw_iload_n C d_Layout_addRow_28 rfl ?_
  refine kw_iast C ho5 d_Layout_addRow_29 (fun σ6 => ?_)
  refine kw_aload_n C d_Layout_addRow_30 rfl ?_
  refine kw_getR C fi_Layout_19 rfl rfl ht d_Layout_addRow_31 (fun o7 ho7 => ?_)
  refine kw_aload_n C d_Layout_addRow_34 rfl ?_
  refine kw_getI C fi_Layout_31 (Or.inl rfl) ht d_Layout_addRow_35 ?_
  refine kw_iload C d_Layout_addRow_38 rfl ?_
  refine kw_iast C ho7 d_Layout_addRow_40 (fun σ8 => ?_)
  refine kw_aload_n C d_Layout_addRow_41 rfl ?_
  refine kw_getR C fi_Layout_22 rfl rfl ht d_Layout_addRow_42 (fun o9 ho9 => ?_)
  refine kw_aload_n C d_Layout_addRow_45 rfl ?_
  refine kw_getI C fi_Layout_31 (Or.inl rfl) ht d_Layout_addRow_46 ?_
  refine kw_aload_n C d_Layout_addRow_49 rfl ?_
  refine kw_getI C fi_Layout_35 (Or.inl rfl) ht d_Layout_addRow_50 ?_
  refine kw_iast C ho9 d_Layout_addRow_53 (fun σ10 => ?_)
  refine kw_aload_n C d_Layout_addRow_54 rfl ?_
  refine kw_getR C fi_Layout_25 rfl rfl ht d_Layout_addRow_55 (fun o11 ho11 => ?_)
  refine kw_aload_n C d_Layout_addRow_58 rfl ?_
  refine kw_getI C fi_Layout_31 (Or.inl rfl) ht d_Layout_addRow_59 ?_
  refine kw_iload C d_Layout_addRow_62 rfl ?_
  refine kw_iast C ho11 d_Layout_addRow_64 (fun σ12 => ?_)
  refine kw_aload_n C d_Layout_addRow_65 rfl ?_
  refine kw_dup C d_Layout_addRow_66 rfl ?_
  refine kw_getI C fi_Layout_35 (Or.inl rfl) ht d_Layout_addRow_67 ?_
  refine kw_iconst (v := 1) C d_Layout_addRow_70 (by decide) ?_
  refine kw_iload C d_Layout_addRow_71 rfl ?_
  refine kw_iadd C d_Layout_addRow_73 ?_
  refine kw_iadd C d_Layout_addRow_74 ?_
  refine kw_putI C fi_Layout_35 rfl ht d_Layout_addRow_75 (fun σ13 => ?_)
  refine kw_aload_n C d_Layout_addRow_78 rfl ?_
  refine kw_dup C d_Layout_addRow_79 rfl ?_
  refine kw_getI C fi_Layout_31 (Or.inl rfl) ht d_Layout_addRow_80 ?_
  refine kw_iconst (v := 1) C d_Layout_addRow_83 (by decide) ?_
  refine kw_iadd C d_Layout_addRow_84 ?_
  refine kw_putI C fi_Layout_31 rfl ht d_Layout_addRow_85 (fun σ14 => ?_)
  exact kw_vret C Ce rfl (by simp) (fun _ _ => rfl) (Nat.le_of_ble_eq_true rfl) (Nat.le_of_ble_eq_true rfl) rfl d_Layout_addRow_88
/-! Layout_lay -/
def rm_Layout_lay : Room := { frames := 1, cells := 0, slots := 0, locals := 25 }
def F_Layout_lay (n : Nat) (t : Nat) (a0 : Int32) (a1 : Int32) (a2 : Int32) (a3 : Int32) (σ : Mm) : Option (Mm) :=
kf_let (pS σ (64 * t + 0) 0) fun σ1 =>
kf_let (pS σ1 (64 * t + 1) 0) fun σ2 =>
kf_nz 8 <|
kf_let (if (1 : Int32) < (a2 / 8) then (a2 / 8) else (1 : Int32) : Int32) fun x3 =>
kf_let (pS σ2 (64 * t + 2) x3) fun σ4 =>
kf_j (α := Int32) (fun x6 σ7 =>
kf_j (α := Int32) (fun x9 σ10 =>
kf_l (α := Int32) n (fun k11 x12 σ13 =>
if x6 ≤ x12 then (
some σ13) else (
kf_in x12 (mm_kd 101).2.2 <|
kf_let (gB σ13 101 x12.toNatClampNeg : Int32) fun x14 =>
kf_in x12 (mm_kd 102).2.2 <|
kf_let (gB σ13 102 x12.toNatClampNeg : Int32) fun x15 =>
kf_j (α := Int32) (fun x17 σ18 =>
kf_in x12 (mm_kd 103).2.2 <|
kf_let (gB σ18 103 x12.toNatClampNeg : Int32) fun x19 =>
kf_l (α := Int32) n (fun k20 x21 σ22 =>
kf_j (α := Unit) (fun x24 σ25 =>
kf_let (x12 + Int32.ofInt 1) fun x26 =>
k11 x26 σ25) fun k23 =>
if a1 ≤ x21 then (
k23 () σ22) else (
if x17 ≤ 0 then (
k23 () σ22) else (
kf_nz 8 <|
Option.bind (F_Layout_addRow n t x14 x21 x15 x17 (((x17 * a2) + 7) / 8) σ22) fun σ27 =>
Option.bind (gR σ27 (64 * t + 9)) fun o28 =>
kf_in x12 (mm_kd 103).2.2 <|
kf_j (α := Int32 × Int32) (fun x30 σ31 =>
kf_in x30.1 (mm_kd o28).2.2 <| kf_let (pB σ31 o28 x30.1.toNatClampNeg x30.2) fun σ32 =>
kf_in x12 (mm_kd 104).2.2 <|
kf_let (x21 + (gB σ32 104 x12.toNatClampNeg) : Int32) fun x33 =>
k20 x33 σ32) fun k29 =>
if x21 ≤ (gB σ27 103 x12.toNatClampNeg) then (
k29 ((gS σ27 (64 * t + 0)) - 1, 0) σ27) else (
Option.bind (gR σ27 (64 * t + 8)) fun o34 =>
kf_let ((gS σ27 (64 * t + 0)) - 1 : Int32) fun x35 =>
kf_in x35 (mm_kd o34).2.2 <|
k29 ((gS σ27 (64 * t + 0)) - 1, (gB σ27 o34 x35.toNatClampNeg) + 1) σ27)))) x19 σ18) fun k16 =>
if a0 ≤ x14 then (
k16 0 σ13) else (
kf_nz x15 <|
k16 ((((a0 - x14) + x15) - 1) / x15) σ13))) x9 σ10) fun k8 =>
if a3 = 0 then (
k8 7 σ7) else (
k8 0 σ7)) fun k5 =>
if a3 = 0 then (
k5 8 σ4) else (
k5 7 σ4)
theorem d_Layout_lay_0 : decode prog_4_method_2_code 0 = .ok (.aload_n 0, 1) := by decide +kernel
theorem d_Layout_lay_1 : decode prog_4_method_2_code 1 = .ok (.iconst 0, 1) := by decide +kernel
theorem d_Layout_lay_2 : decode prog_4_method_2_code 2 = .ok (.putfield 31, 3) := by decide +kernel
theorem d_Layout_lay_5 : decode prog_4_method_2_code 5 = .ok (.aload_n 0, 1) := by decide +kernel
theorem d_Layout_lay_6 : decode prog_4_method_2_code 6 = .ok (.iconst 0, 1) := by decide +kernel
theorem d_Layout_lay_7 : decode prog_4_method_2_code 7 = .ok (.putfield 35, 3) := by decide +kernel
theorem d_Layout_lay_10 : decode prog_4_method_2_code 10 = .ok (.aload_n 0, 1) := by decide +kernel
theorem d_Layout_lay_11 : decode prog_4_method_2_code 11 = .ok (.iconst 1, 1) := by decide +kernel
theorem d_Layout_lay_12 : decode prog_4_method_2_code 12 = .ok (.iload_n 3, 1) := by decide +kernel
theorem d_Layout_lay_13 : decode prog_4_method_2_code 13 = .ok (.bipush 8, 2) := by decide +kernel
theorem d_Layout_lay_15 : decode prog_4_method_2_code 15 = .ok (.idiv, 1) := by decide +kernel
theorem d_Layout_lay_16 : decode prog_4_method_2_code 16 = .ok (.invokestatic 38, 3) := by decide +kernel
theorem d_Layout_lay_19 : decode prog_4_method_2_code 19 = .ok (.putfield 44, 3) := by decide +kernel
theorem d_Layout_lay_22 : decode prog_4_method_2_code 22 = .ok (.iload 4, 2) := by decide +kernel
theorem d_Layout_lay_24 : decode prog_4_method_2_code 24 = .ok (.ifCond .eq 8, 3) := by decide +kernel
theorem d_Layout_lay_27 : decode prog_4_method_2_code 27 = .ok (.bipush 7, 2) := by decide +kernel
theorem d_Layout_lay_29 : decode prog_4_method_2_code 29 = .ok (.goto 5, 3) := by decide +kernel
theorem d_Layout_lay_32 : decode prog_4_method_2_code 32 = .ok (.bipush 8, 2) := by decide +kernel
theorem d_Layout_lay_34 : decode prog_4_method_2_code 34 = .ok (.istore 5, 2) := by decide +kernel
theorem d_Layout_lay_36 : decode prog_4_method_2_code 36 = .ok (.iload 4, 2) := by decide +kernel
theorem d_Layout_lay_38 : decode prog_4_method_2_code 38 = .ok (.ifCond .eq 7, 3) := by decide +kernel
theorem d_Layout_lay_41 : decode prog_4_method_2_code 41 = .ok (.iconst 0, 1) := by decide +kernel
theorem d_Layout_lay_42 : decode prog_4_method_2_code 42 = .ok (.goto 5, 3) := by decide +kernel
theorem d_Layout_lay_45 : decode prog_4_method_2_code 45 = .ok (.bipush 7, 2) := by decide +kernel
theorem d_Layout_lay_47 : decode prog_4_method_2_code 47 = .ok (.istore 6, 2) := by decide +kernel
theorem d_Layout_lay_49 : decode prog_4_method_2_code 49 = .ok (.iload 6, 2) := by decide +kernel
theorem d_Layout_lay_51 : decode prog_4_method_2_code 51 = .ok (.iload 5, 2) := by decide +kernel
theorem d_Layout_lay_53 : decode prog_4_method_2_code 53 = .ok (.if_icmp .ge 143, 3) := by decide +kernel
theorem d_Layout_lay_56 : decode prog_4_method_2_code 56 = .ok (.getstatic 47, 3) := by decide +kernel
theorem d_Layout_lay_59 : decode prog_4_method_2_code 59 = .ok (.iload 6, 2) := by decide +kernel
theorem d_Layout_lay_61 : decode prog_4_method_2_code 61 = .ok (.iaload, 1) := by decide +kernel
theorem d_Layout_lay_62 : decode prog_4_method_2_code 62 = .ok (.istore 7, 2) := by decide +kernel
theorem d_Layout_lay_64 : decode prog_4_method_2_code 64 = .ok (.getstatic 50, 3) := by decide +kernel
theorem d_Layout_lay_67 : decode prog_4_method_2_code 67 = .ok (.iload 6, 2) := by decide +kernel
theorem d_Layout_lay_69 : decode prog_4_method_2_code 69 = .ok (.iaload, 1) := by decide +kernel
theorem d_Layout_lay_70 : decode prog_4_method_2_code 70 = .ok (.istore 8, 2) := by decide +kernel
theorem d_Layout_lay_72 : decode prog_4_method_2_code 72 = .ok (.iload 7, 2) := by decide +kernel
theorem d_Layout_lay_74 : decode prog_4_method_2_code 74 = .ok (.iload_n 1, 1) := by decide +kernel
theorem d_Layout_lay_75 : decode prog_4_method_2_code 75 = .ok (.if_icmp .ge 18, 3) := by decide +kernel
theorem d_Layout_lay_78 : decode prog_4_method_2_code 78 = .ok (.iload_n 1, 1) := by decide +kernel
theorem d_Layout_lay_79 : decode prog_4_method_2_code 79 = .ok (.iload 7, 2) := by decide +kernel
theorem d_Layout_lay_81 : decode prog_4_method_2_code 81 = .ok (.isub, 1) := by decide +kernel
theorem d_Layout_lay_82 : decode prog_4_method_2_code 82 = .ok (.iload 8, 2) := by decide +kernel
theorem d_Layout_lay_84 : decode prog_4_method_2_code 84 = .ok (.iadd, 1) := by decide +kernel
theorem d_Layout_lay_85 : decode prog_4_method_2_code 85 = .ok (.iconst 1, 1) := by decide +kernel
theorem d_Layout_lay_86 : decode prog_4_method_2_code 86 = .ok (.isub, 1) := by decide +kernel
theorem d_Layout_lay_87 : decode prog_4_method_2_code 87 = .ok (.iload 8, 2) := by decide +kernel
theorem d_Layout_lay_89 : decode prog_4_method_2_code 89 = .ok (.idiv, 1) := by decide +kernel
theorem d_Layout_lay_90 : decode prog_4_method_2_code 90 = .ok (.goto 4, 3) := by decide +kernel
theorem d_Layout_lay_93 : decode prog_4_method_2_code 93 = .ok (.iconst 0, 1) := by decide +kernel
theorem d_Layout_lay_94 : decode prog_4_method_2_code 94 = .ok (.istore 9, 2) := by decide +kernel
theorem d_Layout_lay_96 : decode prog_4_method_2_code 96 = .ok (.getstatic 53, 3) := by decide +kernel
theorem d_Layout_lay_99 : decode prog_4_method_2_code 99 = .ok (.iload 6, 2) := by decide +kernel
theorem d_Layout_lay_101 : decode prog_4_method_2_code 101 = .ok (.iaload, 1) := by decide +kernel
theorem d_Layout_lay_102 : decode prog_4_method_2_code 102 = .ok (.istore 10, 2) := by decide +kernel
theorem d_Layout_lay_104 : decode prog_4_method_2_code 104 = .ok (.iload 10, 2) := by decide +kernel
theorem d_Layout_lay_106 : decode prog_4_method_2_code 106 = .ok (.iload_n 2, 1) := by decide +kernel
theorem d_Layout_lay_107 : decode prog_4_method_2_code 107 = .ok (.if_icmp .ge 83, 3) := by decide +kernel
theorem d_Layout_lay_110 : decode prog_4_method_2_code 110 = .ok (.iload 9, 2) := by decide +kernel
theorem d_Layout_lay_112 : decode prog_4_method_2_code 112 = .ok (.ifCond .le 78, 3) := by decide +kernel
theorem d_Layout_lay_115 : decode prog_4_method_2_code 115 = .ok (.aload_n 0, 1) := by decide +kernel
theorem d_Layout_lay_116 : decode prog_4_method_2_code 116 = .ok (.iload 7, 2) := by decide +kernel
theorem d_Layout_lay_118 : decode prog_4_method_2_code 118 = .ok (.iload 10, 2) := by decide +kernel
theorem d_Layout_lay_120 : decode prog_4_method_2_code 120 = .ok (.iload 8, 2) := by decide +kernel
theorem d_Layout_lay_122 : decode prog_4_method_2_code 122 = .ok (.iload 9, 2) := by decide +kernel
theorem d_Layout_lay_124 : decode prog_4_method_2_code 124 = .ok (.iload 9, 2) := by decide +kernel
theorem d_Layout_lay_126 : decode prog_4_method_2_code 126 = .ok (.iload_n 3, 1) := by decide +kernel
theorem d_Layout_lay_127 : decode prog_4_method_2_code 127 = .ok (.imul, 1) := by decide +kernel
theorem d_Layout_lay_128 : decode prog_4_method_2_code 128 = .ok (.bipush 7, 2) := by decide +kernel
theorem d_Layout_lay_130 : decode prog_4_method_2_code 130 = .ok (.iadd, 1) := by decide +kernel
theorem d_Layout_lay_131 : decode prog_4_method_2_code 131 = .ok (.bipush 8, 2) := by decide +kernel
theorem d_Layout_lay_133 : decode prog_4_method_2_code 133 = .ok (.idiv, 1) := by decide +kernel
theorem d_Layout_lay_134 : decode prog_4_method_2_code 134 = .ok (.invokevirtual 56, 3) := by decide +kernel
theorem d_Layout_lay_137 : decode prog_4_method_2_code 137 = .ok (.aload_n 0, 1) := by decide +kernel
theorem d_Layout_lay_138 : decode prog_4_method_2_code 138 = .ok (.getfield 28, 3) := by decide +kernel
theorem d_Layout_lay_141 : decode prog_4_method_2_code 141 = .ok (.aload_n 0, 1) := by decide +kernel
theorem d_Layout_lay_142 : decode prog_4_method_2_code 142 = .ok (.getfield 31, 3) := by decide +kernel
theorem d_Layout_lay_145 : decode prog_4_method_2_code 145 = .ok (.iconst 1, 1) := by decide +kernel
theorem d_Layout_lay_146 : decode prog_4_method_2_code 146 = .ok (.isub, 1) := by decide +kernel
theorem d_Layout_lay_147 : decode prog_4_method_2_code 147 = .ok (.iload 10, 2) := by decide +kernel
theorem d_Layout_lay_149 : decode prog_4_method_2_code 149 = .ok (.getstatic 53, 3) := by decide +kernel
theorem d_Layout_lay_152 : decode prog_4_method_2_code 152 = .ok (.iload 6, 2) := by decide +kernel
theorem d_Layout_lay_154 : decode prog_4_method_2_code 154 = .ok (.iaload, 1) := by decide +kernel
theorem d_Layout_lay_155 : decode prog_4_method_2_code 155 = .ok (.if_icmp .le 19, 3) := by decide +kernel
theorem d_Layout_lay_158 : decode prog_4_method_2_code 158 = .ok (.aload_n 0, 1) := by decide +kernel
theorem d_Layout_lay_159 : decode prog_4_method_2_code 159 = .ok (.getfield 25, 3) := by decide +kernel
theorem d_Layout_lay_162 : decode prog_4_method_2_code 162 = .ok (.aload_n 0, 1) := by decide +kernel
theorem d_Layout_lay_163 : decode prog_4_method_2_code 163 = .ok (.getfield 31, 3) := by decide +kernel
theorem d_Layout_lay_166 : decode prog_4_method_2_code 166 = .ok (.iconst 1, 1) := by decide +kernel
theorem d_Layout_lay_167 : decode prog_4_method_2_code 167 = .ok (.isub, 1) := by decide +kernel
theorem d_Layout_lay_168 : decode prog_4_method_2_code 168 = .ok (.iaload, 1) := by decide +kernel
theorem d_Layout_lay_169 : decode prog_4_method_2_code 169 = .ok (.iconst 1, 1) := by decide +kernel
theorem d_Layout_lay_170 : decode prog_4_method_2_code 170 = .ok (.iadd, 1) := by decide +kernel
theorem d_Layout_lay_171 : decode prog_4_method_2_code 171 = .ok (.goto 4, 3) := by decide +kernel
theorem d_Layout_lay_174 : decode prog_4_method_2_code 174 = .ok (.iconst 0, 1) := by decide +kernel
theorem d_Layout_lay_175 : decode prog_4_method_2_code 175 = .ok (.iastore, 1) := by decide +kernel
theorem d_Layout_lay_176 : decode prog_4_method_2_code 176 = .ok (.iload 10, 2) := by decide +kernel
theorem d_Layout_lay_178 : decode prog_4_method_2_code 178 = .ok (.getstatic 60, 3) := by decide +kernel
theorem d_Layout_lay_181 : decode prog_4_method_2_code 181 = .ok (.iload 6, 2) := by decide +kernel
theorem d_Layout_lay_183 : decode prog_4_method_2_code 183 = .ok (.iaload, 1) := by decide +kernel
theorem d_Layout_lay_184 : decode prog_4_method_2_code 184 = .ok (.iadd, 1) := by decide +kernel
theorem d_Layout_lay_185 : decode prog_4_method_2_code 185 = .ok (.istore 10, 2) := by decide +kernel
theorem d_Layout_lay_187 : decode prog_4_method_2_code 187 = .ok (.goto (-83), 3) := by decide +kernel
theorem d_Layout_lay_190 : decode prog_4_method_2_code 190 = .ok (.iinc 6 1, 3) := by decide +kernel
theorem d_Layout_lay_193 : decode prog_4_method_2_code 193 = .ok (.goto (-144), 3) := by decide +kernel
theorem d_Layout_lay_196 : decode prog_4_method_2_code 196 = .ok (.return_, 1) := by decide +kernel
set_option maxRecDepth 100000 in
set_option maxHeartbeats 4000000 in
theorem c_Layout_lay {l0 : Launch} (hl : l0.stackTraces = false) (n : Nat) (ids : List Nat) {t : Nat} (ht : mm_ok ids t 1 11) (a0 : Int32) (a1 : Int32) (a2 : Int32) (a3 : Int32) (σ : Mm) : kw_C l0 y_Layout_lay (Cond.code y_Layout_lay prog_4_method_2_code 11 none :: kw_Ts) rm_Layout_lay kw_ov ids [] [.ref t, .int a0, .int a1, .int a2, .int a3] σ (F_Layout_lay n t a0 a1 a2 a3 σ) := by
  refine kw_start (L0 := [some (.ref t), some (.int a0), some (.int a1), some (.int a2), some (.int a3), none, none, none, none, none, none]) hl (by decide +kernel) (Nat.le_of_ble_eq_true rfl) rfl (fun Γ ad C Ce => ?_)
  unfold F_Layout_lay
  refine kw_aload_n C d_Layout_lay_0 rfl ?_
  refine kw_iconst (v := 0) C d_Layout_lay_1 (by decide) ?_
  refine kw_putI C fi_Layout_31 rfl ht d_Layout_lay_2 (fun σ1 => ?_)
  refine kw_aload_n C d_Layout_lay_5 rfl ?_
  refine kw_iconst (v := 0) C d_Layout_lay_6 (by decide) ?_
  refine kw_putI C fi_Layout_35 rfl ht d_Layout_lay_7 (fun σ2 => ?_)
  refine kw_aload_n C d_Layout_lay_10 rfl ?_
  refine kw_iconst (v := 1) C d_Layout_lay_11 (by decide) ?_
  refine kw_iload_n C d_Layout_lay_12 rfl ?_
  refine kw_bipush (v := 8) C d_Layout_lay_13 (by decide) ?_
  refine kw_idiv C d_Layout_lay_15 ?_
  refine kw_mmax C mth_Layout_38 ms_max in_Math mw_max (Nat.le_of_ble_eq_true rfl) (Nat.le_of_ble_eq_true rfl) (Nat.le_of_ble_eq_true rfl) (Nat.le_of_ble_eq_true rfl) d_Layout_lay_16 ?_
  refine kw_leti (fun x3 => ?_)
  refine kw_putI C fi_Layout_44 rfl ht d_Layout_lay_19 (fun σ4 => ?_)
  refine kw_iload C d_Layout_lay_22 rfl ?_
  refine kw_j (α := Int32) (pcj := 34) (Lj := fun x6 => [some (.ref t), some (.int a0), some (.int a1), some (.int a2), some (.int a3), none, none, none, none, none, none]) (stj := fun x6 => [.int x6]) (fun x6 σ7 => ?_) (fun k5 hk5 => ?_)
  · refine kw_istore (L' := [some (.ref t), some (.int a0), some (.int a1), some (.int a2), some (.int a3), some (.int x6), none, none, none, none, none]) C d_Layout_lay_34 (by decide) rfl ?_
    refine kw_iload C d_Layout_lay_36 rfl ?_
    refine kw_j (α := Int32) (pcj := 47) (Lj := fun x9 => [some (.ref t), some (.int a0), some (.int a1), some (.int a2), none, some (.int x6), none, none, none, none, none]) (stj := fun x9 => [.int x9]) (fun x9 σ10 => ?_) (fun k8 hk8 => ?_)
    · refine kw_istore (L' := [some (.ref t), some (.int a0), some (.int a1), some (.int a2), none, some (.int x6), some (.int x9), none, none, none, none]) C d_Layout_lay_47 (by decide) rfl ?_
      refine kw_wk (kw_l (α := Int32) (pc := 49) (Lj := fun x12 => [some (.ref t), some (.int a0), some (.int a1), some (.int a2), none, some (.int x6), some (.int x12), none, none, none, none]) (stj := fun x12 => []) (fun k11 hk11 x12 σ13 => ?_) n x9 σ10) ⟨Or.inr rfl, Or.inr rfl, Or.inr rfl, Or.inr rfl, Or.inl rfl, Or.inr rfl, Or.inr rfl, Or.inl rfl, Or.inl rfl, Or.inl rfl, Or.inl rfl, trivial⟩
      refine kw_iload C d_Layout_lay_49 rfl ?_
      refine kw_iload C d_Layout_lay_51 rfl ?_
      refine kw_icmp_ge (tgt := 196) C d_Layout_lay_53 (by decide) ?_ ?_
      · exact kw_vret C Ce rfl (by simp) (fun _ _ => rfl) (Nat.le_of_ble_eq_true rfl) (Nat.le_of_ble_eq_true rfl) rfl d_Layout_lay_196
      · refine kw_gets C (Cn := "PictureFile$Layout") (n := "PASS_X") (dd := "[I") (o := 101) (List.mem_of_getElem? (i := 1) rfl) rfl gs_Layout_47 d_Layout_lay_56 ?_
        refine kw_iload C d_Layout_lay_59 rfl ?_
        refine kw_iald C (Or.inr rfl) d_Layout_lay_61 ?_
        refine kw_leti (fun x14 => ?_)
        refine kw_istore (L' := [some (.ref t), some (.int a0), some (.int a1), some (.int a2), none, some (.int x6), some (.int x12), some (.int x14), none, none, none]) C d_Layout_lay_62 (by decide) rfl ?_
        refine kw_gets C (Cn := "PictureFile$Layout") (n := "PASS_RIGHT") (dd := "[I") (o := 102) (List.mem_of_getElem? (i := 2) rfl) rfl gs_Layout_50 d_Layout_lay_64 ?_
        refine kw_iload C d_Layout_lay_67 rfl ?_
        refine kw_iald C (Or.inr rfl) d_Layout_lay_69 ?_
        refine kw_leti (fun x15 => ?_)
        refine kw_istore (L' := [some (.ref t), some (.int a0), some (.int a1), some (.int a2), none, some (.int x6), some (.int x12), some (.int x14), some (.int x15), none, none]) C d_Layout_lay_70 (by decide) rfl ?_
        refine kw_iload C d_Layout_lay_72 rfl ?_
        refine kw_iload_n C d_Layout_lay_74 rfl ?_
        refine kw_j (α := Int32) (pcj := 94) (Lj := fun x17 => [some (.ref t), some (.int a0), some (.int a1), some (.int a2), none, some (.int x6), some (.int x12), some (.int x14), some (.int x15), none, none]) (stj := fun x17 => [.int x17]) (fun x17 σ18 => ?_) (fun k16 hk16 => ?_)
        · refine kw_istore (L' := [some (.ref t), some (.int a0), some (.int a1), some (.int a2), none, some (.int x6), some (.int x12), some (.int x14), some (.int x15), some (.int x17), none]) C d_Layout_lay_94 (by decide) rfl ?_
          refine kw_gets C (Cn := "PictureFile$Layout") (n := "PASS_Y") (dd := "[I") (o := 103) (List.mem_of_getElem? (i := 3) rfl) rfl gs_Layout_53 d_Layout_lay_96 ?_
          refine kw_iload C d_Layout_lay_99 rfl ?_
          refine kw_iald C (Or.inr rfl) d_Layout_lay_101 ?_
          refine kw_leti (fun x19 => ?_)
          refine kw_istore (L' := [some (.ref t), some (.int a0), some (.int a1), some (.int a2), none, some (.int x6), some (.int x12), some (.int x14), some (.int x15), some (.int x17), some (.int x19)]) C d_Layout_lay_102 (by decide) rfl ?_
          refine kw_wk (kw_l (α := Int32) (pc := 104) (Lj := fun x21 => [some (.ref t), some (.int a0), some (.int a1), some (.int a2), none, some (.int x6), some (.int x12), some (.int x14), some (.int x15), some (.int x17), some (.int x21)]) (stj := fun x21 => []) (fun k20 hk20 x21 σ22 => ?_) n x19 σ18) ⟨Or.inr rfl, Or.inr rfl, Or.inr rfl, Or.inr rfl, Or.inl rfl, Or.inr rfl, Or.inr rfl, Or.inr rfl, Or.inr rfl, Or.inr rfl, Or.inr rfl, trivial⟩
          refine kw_iload C d_Layout_lay_104 rfl ?_
          refine kw_iload_n C d_Layout_lay_106 rfl ?_
          refine kw_j (α := Unit) (pcj := 190) (Lj := fun x24 => [some (.ref t), some (.int a0), some (.int a1), some (.int a2), none, some (.int x6), some (.int x12), none, none, none, none]) (stj := fun x24 => []) (fun x24 σ25 => ?_) (fun k23 hk23 => ?_)
          · refine kw_iincL (L2 := fun x26 => [some (.ref t), some (.int a0), some (.int a1), some (.int a2), none, some (.int x6), some (.int x26), none, none, none, none]) C d_Layout_lay_190 (by decide) rfl (fun _ => rfl) (fun x26 => ?_)
            refine kw_goto (tgt := 49) C d_Layout_lay_193 (by decide) ?_
            exact kw_wk (hk11 x26 σ25) ⟨Or.inr rfl, Or.inr rfl, Or.inr rfl, Or.inr rfl, Or.inl rfl, Or.inr rfl, Or.inr rfl, Or.inl rfl, Or.inl rfl, Or.inl rfl, Or.inl rfl, trivial⟩
          · refine kw_icmp_ge (tgt := 190) C d_Layout_lay_107 (by decide) ?_ ?_
            · exact kw_wk (hk23 () σ22) ⟨Or.inr rfl, Or.inr rfl, Or.inr rfl, Or.inr rfl, Or.inl rfl, Or.inr rfl, Or.inr rfl, Or.inl rfl, Or.inl rfl, Or.inl rfl, Or.inl rfl, trivial⟩
            · refine kw_iload C d_Layout_lay_110 rfl ?_
              refine kw_if_le (tgt := 190) C d_Layout_lay_112 (by decide) ?_ ?_
              · exact kw_wk (hk23 () σ22) ⟨Or.inr rfl, Or.inr rfl, Or.inr rfl, Or.inr rfl, Or.inl rfl, Or.inr rfl, Or.inr rfl, Or.inl rfl, Or.inl rfl, Or.inl rfl, Or.inl rfl, trivial⟩
              · refine kw_aload_n C d_Layout_lay_115 rfl ?_
                refine kw_iload C d_Layout_lay_116 rfl ?_
                refine kw_iload C d_Layout_lay_118 rfl ?_
                refine kw_iload C d_Layout_lay_120 rfl ?_
                refine kw_iload C d_Layout_lay_122 rfl ?_
                refine kw_iload C d_Layout_lay_124 rfl ?_
                refine kw_iload_n C d_Layout_lay_126 rfl ?_
                refine kw_imul C d_Layout_lay_127 ?_
                refine kw_bipush (v := 7) C d_Layout_lay_128 (by decide) ?_
                refine kw_iadd C d_Layout_lay_130 ?_
                refine kw_bipush (v := 8) C d_Layout_lay_131 (by decide) ?_
                refine kw_idiv C d_Layout_lay_133 ?_
                refine kw_callVv (cl' := 0) (sl' := 0) (As := [.int x14, .int x21, .int x15, .int x17, .int (((x17 * a2) + 7) / 8)]) C (c_Layout_addRow hl n ids ht x14 x21 x15 x17 (((x17 * a2) + 7) / 8) σ22) mi_Layout_56 v_Layout_addRow ⟨_, _, rfl⟩ ht ⟨Nat.le_of_ble_eq_true rfl, Nat.le_of_ble_eq_true rfl⟩ (Nat.le_of_ble_eq_true rfl) ⟨Nat.le_of_ble_eq_true rfl, Nat.le_of_ble_eq_true rfl⟩ ⟨rfl, rfl⟩ rfl d_Layout_lay_134 (fun σ27 => ?_)
                refine kw_aload_n C d_Layout_lay_137 rfl ?_
                refine kw_getR C fi_Layout_28 rfl rfl ht d_Layout_lay_138 (fun o28 ho28 => ?_)
                refine kw_aload_n C d_Layout_lay_141 rfl ?_
                refine kw_getI C fi_Layout_31 (Or.inl rfl) ht d_Layout_lay_142 ?_
                refine kw_iconst (v := 1) C d_Layout_lay_145 (by decide) ?_
                refine kw_isub C d_Layout_lay_146 ?_
                refine kw_iload C d_Layout_lay_147 rfl ?_
                refine kw_gets C (Cn := "PictureFile$Layout") (n := "PASS_Y") (dd := "[I") (o := 103) (List.mem_of_getElem? (i := 3) rfl) rfl gs_Layout_53 d_Layout_lay_149 ?_
                refine kw_iload C d_Layout_lay_152 rfl ?_
                refine kw_iald C (Or.inr rfl) d_Layout_lay_154 ?_
                refine kw_j (α := Int32 × Int32) (pcj := 175) (Lj := fun x30 => [some (.ref t), some (.int a0), some (.int a1), some (.int a2), none, some (.int x6), some (.int x12), some (.int x14), some (.int x15), some (.int x17), some (.int x21)]) (stj := fun x30 => [.int x30.2, .int x30.1, .ref o28]) (fun x30 σ31 => ?_) (fun k29 hk29 => ?_)
                · refine kw_iast C ho28 d_Layout_lay_175 (fun σ32 => ?_)
                  refine kw_iload C d_Layout_lay_176 rfl ?_
                  refine kw_gets C (Cn := "PictureFile$Layout") (n := "PASS_DOWN") (dd := "[I") (o := 104) (List.mem_of_getElem? (i := 4) rfl) rfl gs_Layout_60 d_Layout_lay_178 ?_
                  refine kw_iload C d_Layout_lay_181 rfl ?_
                  refine kw_iald C (Or.inr rfl) d_Layout_lay_183 ?_
                  refine kw_iadd C d_Layout_lay_184 ?_
                  refine kw_leti (fun x33 => ?_)
                  refine kw_istore (L' := [some (.ref t), some (.int a0), some (.int a1), some (.int a2), none, some (.int x6), some (.int x12), some (.int x14), some (.int x15), some (.int x17), some (.int x33)]) C d_Layout_lay_185 (by decide) rfl ?_
                  refine kw_goto (tgt := 104) C d_Layout_lay_187 (by decide) ?_
                  exact kw_wk (hk20 x33 σ32) ⟨Or.inr rfl, Or.inr rfl, Or.inr rfl, Or.inr rfl, Or.inl rfl, Or.inr rfl, Or.inr rfl, Or.inr rfl, Or.inr rfl, Or.inr rfl, Or.inr rfl, trivial⟩
                · refine kw_icmp_le (tgt := 174) C d_Layout_lay_155 (by decide) ?_ ?_
                  · refine kw_iconst (v := 0) C d_Layout_lay_174 (by decide) ?_
                    exact kw_wk (hk29 ((gS σ27 (64 * t + 0)) - 1, 0) σ27) ⟨Or.inr rfl, Or.inr rfl, Or.inr rfl, Or.inr rfl, Or.inl rfl, Or.inr rfl, Or.inr rfl, Or.inr rfl, Or.inr rfl, Or.inr rfl, Or.inr rfl, trivial⟩
                  · refine kw_aload_n C d_Layout_lay_158 rfl ?_
                    refine kw_getR C fi_Layout_25 rfl rfl ht d_Layout_lay_159 (fun o34 ho34 => ?_)
                    refine kw_aload_n C d_Layout_lay_162 rfl ?_
                    refine kw_getI C fi_Layout_31 (Or.inl rfl) ht d_Layout_lay_163 ?_
                    refine kw_iconst (v := 1) C d_Layout_lay_166 (by decide) ?_
                    refine kw_isub C d_Layout_lay_167 ?_
                    refine kw_leti (fun x35 => ?_)
                    refine kw_iald C (Or.inl ⟨ho34.1, ho34.2.1⟩) d_Layout_lay_168 ?_
                    refine kw_iconst (v := 1) C d_Layout_lay_169 (by decide) ?_
                    refine kw_iadd C d_Layout_lay_170 ?_
                    refine kw_goto (tgt := 175) C d_Layout_lay_171 (by decide) ?_
                    exact kw_wk (hk29 ((gS σ27 (64 * t + 0)) - 1, (gB σ27 o34 x35.toNatClampNeg) + 1) σ27) ⟨Or.inr rfl, Or.inr rfl, Or.inr rfl, Or.inr rfl, Or.inl rfl, Or.inr rfl, Or.inr rfl, Or.inr rfl, Or.inr rfl, Or.inr rfl, Or.inr rfl, trivial⟩
        · refine kw_icmp_ge (tgt := 93) C d_Layout_lay_75 (by decide) ?_ ?_
          · refine kw_iconst (v := 0) C d_Layout_lay_93 (by decide) ?_
            exact kw_wk (hk16 0 σ13) ⟨Or.inr rfl, Or.inr rfl, Or.inr rfl, Or.inr rfl, Or.inl rfl, Or.inr rfl, Or.inr rfl, Or.inr rfl, Or.inr rfl, Or.inl rfl, Or.inl rfl, trivial⟩
          · refine kw_iload_n C d_Layout_lay_78 rfl ?_
            refine kw_iload C d_Layout_lay_79 rfl ?_
            refine kw_isub C d_Layout_lay_81 ?_
            refine kw_iload C d_Layout_lay_82 rfl ?_
            refine kw_iadd C d_Layout_lay_84 ?_
            refine kw_iconst (v := 1) C d_Layout_lay_85 (by decide) ?_
            refine kw_isub C d_Layout_lay_86 ?_
            refine kw_iload C d_Layout_lay_87 rfl ?_
            refine kw_idiv C d_Layout_lay_89 ?_
            refine kw_goto (tgt := 94) C d_Layout_lay_90 (by decide) ?_
            exact kw_wk (hk16 ((((a0 - x14) + x15) - 1) / x15) σ13) ⟨Or.inr rfl, Or.inr rfl, Or.inr rfl, Or.inr rfl, Or.inl rfl, Or.inr rfl, Or.inr rfl, Or.inr rfl, Or.inr rfl, Or.inl rfl, Or.inl rfl, trivial⟩
    · refine kw_if_eq (tgt := 45) C d_Layout_lay_38 (by decide) ?_ ?_
      · refine kw_bipush (v := 7) C d_Layout_lay_45 (by decide) ?_
        exact kw_wk (hk8 7 σ7) ⟨Or.inr rfl, Or.inr rfl, Or.inr rfl, Or.inr rfl, Or.inl rfl, Or.inr rfl, Or.inl rfl, Or.inl rfl, Or.inl rfl, Or.inl rfl, Or.inl rfl, trivial⟩
      · refine kw_iconst (v := 0) C d_Layout_lay_41 (by decide) ?_
        refine kw_goto (tgt := 47) C d_Layout_lay_42 (by decide) ?_
        exact kw_wk (hk8 0 σ7) ⟨Or.inr rfl, Or.inr rfl, Or.inr rfl, Or.inr rfl, Or.inl rfl, Or.inr rfl, Or.inl rfl, Or.inl rfl, Or.inl rfl, Or.inl rfl, Or.inl rfl, trivial⟩
  · refine kw_if_eq (tgt := 32) C d_Layout_lay_24 (by decide) ?_ ?_
    · refine kw_bipush (v := 8) C d_Layout_lay_32 (by decide) ?_
      exact kw_wk (hk5 8 σ4) ⟨Or.inr rfl, Or.inr rfl, Or.inr rfl, Or.inr rfl, Or.inr rfl, Or.inl rfl, Or.inl rfl, Or.inl rfl, Or.inl rfl, Or.inl rfl, Or.inl rfl, trivial⟩
    · refine kw_bipush (v := 7) C d_Layout_lay_27 (by decide) ?_
      refine kw_goto (tgt := 34) C d_Layout_lay_29 (by decide) ?_
      exact kw_wk (hk5 7 σ4) ⟨Or.inr rfl, Or.inr rfl, Or.inr rfl, Or.inr rfl, Or.inr rfl, Or.inl rfl, Or.inl rfl, Or.inl rfl, Or.inl rfl, Or.inl rfl, Or.inl rfl, trivial⟩
/-! Picture_begin -/
def rm_Picture_begin : Room := { frames := 2, cells := 0, slots := 0, locals := 55 }
def F_Picture_begin (n : Nat) (t : Nat) (a0 : Int32) (a1 : Int32) (a2 : Int32) (a3 : Int32) (a4 : Int32) (σ : Mm) : Option (Mm) :=
kf_let (pS σ (64 * t + 0) a0) fun σ1 =>
kf_let (pS σ1 (64 * t + 1) a1) fun σ2 =>
kf_let (pS σ2 (64 * t + 2) a2) fun σ3 =>
kf_let (pS σ3 (64 * t + 3) a3) fun σ4 =>
kf_z a4 <| kf_let (pS σ4 (64 * t + 4) a4) fun σ5 =>
kf_c2 (F_Picture_channelsOf n (gS σ5 (64 * t + 2)) σ5) fun x6 σ7 =>
kf_let (pS σ7 (64 * t + 5) x6) fun σ8 =>
kf_let (pS σ8 (64 * t + 6) 0) fun σ9 =>
kf_let (pS σ9 (64 * t + 7) 0) fun σ10 =>
Option.bind (gR σ10 (64 * t + 11)) fun o11 =>
Option.bind (F_Layout_lay n o11 (gS σ10 (64 * t + 0)) (gS σ10 (64 * t + 1)) ((gS σ10 (64 * t + 5)) * (gS σ10 (64 * t + 3))) (gS σ10 (64 * t + 4)) σ10) fun σ12 =>
kf_l (α := Int32) n (fun k13 x14 σ15 =>
if (((gS σ15 (64 * t + 0)) * (gS σ15 (64 * t + 1))) * (gS σ15 (64 * t + 5))) ≤ x14 then (
some σ15) else (
Option.bind (gR σ15 (64 * t + 8)) fun o16 =>
kf_in x14 (mm_kd o16).2.2 <| kf_let (pB σ15 o16 x14.toNatClampNeg 0) fun σ17 =>
kf_let (x14 + Int32.ofInt 1) fun x18 =>
k13 x18 σ17)) 0 σ12
theorem d_Picture_begin_0 : decode prog_7_method_8_code 0 = .ok (.aload_n 0, 1) := by decide +kernel
theorem d_Picture_begin_1 : decode prog_7_method_8_code 1 = .ok (.iload_n 1, 1) := by decide +kernel
theorem d_Picture_begin_2 : decode prog_7_method_8_code 2 = .ok (.putfield 30, 3) := by decide +kernel
theorem d_Picture_begin_5 : decode prog_7_method_8_code 5 = .ok (.aload_n 0, 1) := by decide +kernel
theorem d_Picture_begin_6 : decode prog_7_method_8_code 6 = .ok (.iload_n 2, 1) := by decide +kernel
theorem d_Picture_begin_7 : decode prog_7_method_8_code 7 = .ok (.putfield 34, 3) := by decide +kernel
theorem d_Picture_begin_10 : decode prog_7_method_8_code 10 = .ok (.aload_n 0, 1) := by decide +kernel
theorem d_Picture_begin_11 : decode prog_7_method_8_code 11 = .ok (.iload_n 3, 1) := by decide +kernel
theorem d_Picture_begin_12 : decode prog_7_method_8_code 12 = .ok (.putfield 37, 3) := by decide +kernel
theorem d_Picture_begin_15 : decode prog_7_method_8_code 15 = .ok (.aload_n 0, 1) := by decide +kernel
theorem d_Picture_begin_16 : decode prog_7_method_8_code 16 = .ok (.iload 4, 2) := by decide +kernel
theorem d_Picture_begin_18 : decode prog_7_method_8_code 18 = .ok (.putfield 40, 3) := by decide +kernel
theorem d_Picture_begin_21 : decode prog_7_method_8_code 21 = .ok (.aload_n 0, 1) := by decide +kernel
theorem d_Picture_begin_22 : decode prog_7_method_8_code 22 = .ok (.iload 5, 2) := by decide +kernel
theorem d_Picture_begin_24 : decode prog_7_method_8_code 24 = .ok (.putfield 43, 3) := by decide +kernel
theorem d_Picture_begin_27 : decode prog_7_method_8_code 27 = .ok (.aload_n 0, 1) := by decide +kernel
theorem d_Picture_begin_28 : decode prog_7_method_8_code 28 = .ok (.aload_n 0, 1) := by decide +kernel
theorem d_Picture_begin_29 : decode prog_7_method_8_code 29 = .ok (.getfield 37, 3) := by decide +kernel
theorem d_Picture_begin_32 : decode prog_7_method_8_code 32 = .ok (.invokestatic 47, 3) := by decide +kernel
theorem d_Picture_begin_35 : decode prog_7_method_8_code 35 = .ok (.putfield 51, 3) := by decide +kernel
theorem d_Picture_begin_38 : decode prog_7_method_8_code 38 = .ok (.aload_n 0, 1) := by decide +kernel
theorem d_Picture_begin_39 : decode prog_7_method_8_code 39 = .ok (.iconst 0, 1) := by decide +kernel
theorem d_Picture_begin_40 : decode prog_7_method_8_code 40 = .ok (.putfield 54, 3) := by decide +kernel
theorem d_Picture_begin_43 : decode prog_7_method_8_code 43 = .ok (.aload_n 0, 1) := by decide +kernel
theorem d_Picture_begin_44 : decode prog_7_method_8_code 44 = .ok (.iconst 0, 1) := by decide +kernel
theorem d_Picture_begin_45 : decode prog_7_method_8_code 45 = .ok (.putfield 57, 3) := by decide +kernel
theorem d_Picture_begin_48 : decode prog_7_method_8_code 48 = .ok (.aload_n 0, 1) := by decide +kernel
theorem d_Picture_begin_49 : decode prog_7_method_8_code 49 = .ok (.getfield 22, 3) := by decide +kernel
theorem d_Picture_begin_52 : decode prog_7_method_8_code 52 = .ok (.aload_n 0, 1) := by decide +kernel
theorem d_Picture_begin_53 : decode prog_7_method_8_code 53 = .ok (.getfield 30, 3) := by decide +kernel
theorem d_Picture_begin_56 : decode prog_7_method_8_code 56 = .ok (.aload_n 0, 1) := by decide +kernel
theorem d_Picture_begin_57 : decode prog_7_method_8_code 57 = .ok (.getfield 34, 3) := by decide +kernel
theorem d_Picture_begin_60 : decode prog_7_method_8_code 60 = .ok (.aload_n 0, 1) := by decide +kernel
theorem d_Picture_begin_61 : decode prog_7_method_8_code 61 = .ok (.getfield 51, 3) := by decide +kernel
theorem d_Picture_begin_64 : decode prog_7_method_8_code 64 = .ok (.aload_n 0, 1) := by decide +kernel
theorem d_Picture_begin_65 : decode prog_7_method_8_code 65 = .ok (.getfield 40, 3) := by decide +kernel
theorem d_Picture_begin_68 : decode prog_7_method_8_code 68 = .ok (.imul, 1) := by decide +kernel
theorem d_Picture_begin_69 : decode prog_7_method_8_code 69 = .ok (.aload_n 0, 1) := by decide +kernel
theorem d_Picture_begin_70 : decode prog_7_method_8_code 70 = .ok (.getfield 43, 3) := by decide +kernel
theorem d_Picture_begin_73 : decode prog_7_method_8_code 73 = .ok (.invokevirtual 60, 3) := by decide +kernel
theorem d_Picture_begin_76 : decode prog_7_method_8_code 76 = .ok (.iconst 0, 1) := by decide +kernel
theorem d_Picture_begin_77 : decode prog_7_method_8_code 77 = .ok (.istore 6, 2) := by decide +kernel
theorem d_Picture_begin_79 : decode prog_7_method_8_code 79 = .ok (.iload 6, 2) := by decide +kernel
theorem d_Picture_begin_81 : decode prog_7_method_8_code 81 = .ok (.aload_n 0, 1) := by decide +kernel
theorem d_Picture_begin_82 : decode prog_7_method_8_code 82 = .ok (.getfield 30, 3) := by decide +kernel
theorem d_Picture_begin_85 : decode prog_7_method_8_code 85 = .ok (.aload_n 0, 1) := by decide +kernel
theorem d_Picture_begin_86 : decode prog_7_method_8_code 86 = .ok (.getfield 34, 3) := by decide +kernel
theorem d_Picture_begin_89 : decode prog_7_method_8_code 89 = .ok (.imul, 1) := by decide +kernel
theorem d_Picture_begin_90 : decode prog_7_method_8_code 90 = .ok (.aload_n 0, 1) := by decide +kernel
theorem d_Picture_begin_91 : decode prog_7_method_8_code 91 = .ok (.getfield 51, 3) := by decide +kernel
theorem d_Picture_begin_94 : decode prog_7_method_8_code 94 = .ok (.imul, 1) := by decide +kernel
theorem d_Picture_begin_95 : decode prog_7_method_8_code 95 = .ok (.if_icmp .ge 17, 3) := by decide +kernel
theorem d_Picture_begin_98 : decode prog_7_method_8_code 98 = .ok (.aload_n 0, 1) := by decide +kernel
theorem d_Picture_begin_99 : decode prog_7_method_8_code 99 = .ok (.getfield 9, 3) := by decide +kernel
theorem d_Picture_begin_102 : decode prog_7_method_8_code 102 = .ok (.iload 6, 2) := by decide +kernel
theorem d_Picture_begin_104 : decode prog_7_method_8_code 104 = .ok (.iconst 0, 1) := by decide +kernel
theorem d_Picture_begin_105 : decode prog_7_method_8_code 105 = .ok (.iastore, 1) := by decide +kernel
theorem d_Picture_begin_106 : decode prog_7_method_8_code 106 = .ok (.iinc 6 1, 3) := by decide +kernel
theorem d_Picture_begin_109 : decode prog_7_method_8_code 109 = .ok (.goto (-30), 3) := by decide +kernel
theorem d_Picture_begin_112 : decode prog_7_method_8_code 112 = .ok (.return_, 1) := by decide +kernel
set_option maxRecDepth 100000 in
set_option maxHeartbeats 4000000 in
theorem c_Picture_begin {l0 : Launch} (hl : l0.stackTraces = false) (n : Nat) (ids : List Nat) {t : Nat} (ht : mm_ok ids t 1 10) (a0 : Int32) (a1 : Int32) (a2 : Int32) (a3 : Int32) (a4 : Int32) (σ : Mm) : kw_C l0 y_Picture_begin (Cond.code y_Picture_begin prog_7_method_8_code 7 none :: kw_Ts) rm_Picture_begin kw_ov ids [] [.ref t, .int a0, .int a1, .int a2, .int a3, .int a4] σ (F_Picture_begin n t a0 a1 a2 a3 a4 σ) := by
  refine kw_start (L0 := [some (.ref t), some (.int a0), some (.int a1), some (.int a2), some (.int a3), some (.int a4), none]) hl (by decide +kernel) (Nat.le_of_ble_eq_true rfl) rfl (fun Γ ad C Ce => ?_)
  unfold F_Picture_begin
  refine kw_aload_n C d_Picture_begin_0 rfl ?_
  refine kw_iload_n C d_Picture_begin_1 rfl ?_
  refine kw_putI C fi_Picture_30 rfl ht d_Picture_begin_2 (fun σ1 => ?_)
  refine kw_aload_n C d_Picture_begin_5 rfl ?_
  refine kw_iload_n C d_Picture_begin_6 rfl ?_
  refine kw_putI C fi_Picture_34 rfl ht d_Picture_begin_7 (fun σ2 => ?_)
  refine kw_aload_n C d_Picture_begin_10 rfl ?_
  refine kw_iload_n C d_Picture_begin_11 rfl ?_
  refine kw_putI C fi_Picture_37 rfl ht d_Picture_begin_12 (fun σ3 => ?_)
  refine kw_aload_n C d_Picture_begin_15 rfl ?_
  refine kw_iload C d_Picture_begin_16 rfl ?_
  refine kw_putI C fi_Picture_40 rfl ht d_Picture_begin_18 (fun σ4 => ?_)
  refine kw_aload_n C d_Picture_begin_21 rfl ?_
  refine kw_iload C d_Picture_begin_22 rfl ?_
  refine kw_putZ C fi_Picture_43 rfl ht d_Picture_begin_24 (fun σ5 => ?_)
  refine kw_aload_n C d_Picture_begin_27 rfl ?_
  refine kw_aload_n C d_Picture_begin_28 rfl ?_
  refine kw_getI C fi_Picture_37 (Or.inl rfl) ht d_Picture_begin_29 ?_
  refine kw_callSi (cl' := 0) (sl' := 0) (As := [.int (gS σ5 (64 * t + 2))]) C (c_Picture_channelsOf hl n ids  (gS σ5 (64 * t + 2)) σ5) mi_Picture_47 s_Picture_channelsOf ⟨Nat.le_of_ble_eq_true rfl, Nat.le_of_ble_eq_true rfl⟩ (Nat.le_of_ble_eq_true rfl) ⟨Nat.le_of_ble_eq_true rfl, Nat.le_of_ble_eq_true rfl⟩ ⟨rfl, rfl⟩ rfl d_Picture_begin_32 (fun x6 σ7 => ?_)
  refine kw_putI C fi_Picture_51 rfl ht d_Picture_begin_35 (fun σ8 => ?_)
  refine kw_aload_n C d_Picture_begin_38 rfl ?_
  refine kw_iconst (v := 0) C d_Picture_begin_39 (by decide) ?_
  refine kw_putI C fi_Picture_54 rfl ht d_Picture_begin_40 (fun σ9 => ?_)
  refine kw_aload_n C d_Picture_begin_43 rfl ?_
  refine kw_iconst (v := 0) C d_Picture_begin_44 (by decide) ?_
  refine kw_putI C fi_Picture_57 rfl ht d_Picture_begin_45 (fun σ10 => ?_)
  refine kw_aload_n C d_Picture_begin_48 rfl ?_
  refine kw_getR C fi_Picture_22 rfl rfl ht d_Picture_begin_49 (fun o11 ho11 => ?_)
  refine kw_aload_n C d_Picture_begin_52 rfl ?_
  refine kw_getI C fi_Picture_30 (Or.inl rfl) ht d_Picture_begin_53 ?_
  refine kw_aload_n C d_Picture_begin_56 rfl ?_
  refine kw_getI C fi_Picture_34 (Or.inl rfl) ht d_Picture_begin_57 ?_
  refine kw_aload_n C d_Picture_begin_60 rfl ?_
  refine kw_getI C fi_Picture_51 (Or.inl rfl) ht d_Picture_begin_61 ?_
  refine kw_aload_n C d_Picture_begin_64 rfl ?_
  refine kw_getI C fi_Picture_40 (Or.inl rfl) ht d_Picture_begin_65 ?_
  refine kw_imul C d_Picture_begin_68 ?_
  refine kw_aload_n C d_Picture_begin_69 rfl ?_
  refine kw_getI C fi_Picture_43 (Or.inr rfl) ht d_Picture_begin_70 ?_
  refine kw_callVv (cl' := 0) (sl' := 0) (As := [.int (gS σ10 (64 * t + 0)), .int (gS σ10 (64 * t + 1)), .int ((gS σ10 (64 * t + 5)) * (gS σ10 (64 * t + 3))), .int (gS σ10 (64 * t + 4))]) C (c_Layout_lay hl n ids ho11 (gS σ10 (64 * t + 0)) (gS σ10 (64 * t + 1)) ((gS σ10 (64 * t + 5)) * (gS σ10 (64 * t + 3))) (gS σ10 (64 * t + 4)) σ10) mi_Picture_60 v_Layout_lay ⟨_, _, rfl⟩ ho11 ⟨Nat.le_of_ble_eq_true rfl, Nat.le_of_ble_eq_true rfl⟩ (Nat.le_of_ble_eq_true rfl) ⟨Nat.le_of_ble_eq_true rfl, Nat.le_of_ble_eq_true rfl⟩ ⟨rfl, rfl⟩ rfl d_Picture_begin_73 (fun σ12 => ?_)
  refine kw_iconst (v := 0) C d_Picture_begin_76 (by decide) ?_
  refine kw_istore (L' := [some (.ref t), some (.int a0), some (.int a1), some (.int a2), some (.int a3), some (.int a4), some (.int 0)]) C d_Picture_begin_77 (by decide) rfl ?_
  refine kw_wk (kw_l (α := Int32) (pc := 79) (Lj := fun x14 => [some (.ref t), none, none, none, none, none, some (.int x14)]) (stj := fun x14 => []) (fun k13 hk13 x14 σ15 => ?_) n 0 σ12) ⟨Or.inr rfl, Or.inl rfl, Or.inl rfl, Or.inl rfl, Or.inl rfl, Or.inl rfl, Or.inr rfl, trivial⟩
  refine kw_iload C d_Picture_begin_79 rfl ?_
  refine kw_aload_n C d_Picture_begin_81 rfl ?_
  refine kw_getI C fi_Picture_30 (Or.inl rfl) ht d_Picture_begin_82 ?_
  refine kw_aload_n C d_Picture_begin_85 rfl ?_
  refine kw_getI C fi_Picture_34 (Or.inl rfl) ht d_Picture_begin_86 ?_
  refine kw_imul C d_Picture_begin_89 ?_
  refine kw_aload_n C d_Picture_begin_90 rfl ?_
  refine kw_getI C fi_Picture_51 (Or.inl rfl) ht d_Picture_begin_91 ?_
  refine kw_imul C d_Picture_begin_94 ?_
  refine kw_icmp_ge (tgt := 112) C d_Picture_begin_95 (by decide) ?_ ?_
  · exact kw_vret C Ce rfl (by simp) (fun _ _ => rfl) (Nat.le_of_ble_eq_true rfl) (Nat.le_of_ble_eq_true rfl) rfl d_Picture_begin_112
  · refine kw_aload_n C d_Picture_begin_98 rfl ?_
    refine kw_getR C fi_Picture_9 rfl rfl ht d_Picture_begin_99 (fun o16 ho16 => ?_)
    refine kw_iload C d_Picture_begin_102 rfl ?_
    refine kw_iconst (v := 0) C d_Picture_begin_104 (by decide) ?_
    refine kw_iast C ho16 d_Picture_begin_105 (fun σ17 => ?_)
    refine kw_iincL (L2 := fun x18 => [some (.ref t), none, none, none, none, none, some (.int x18)]) C d_Picture_begin_106 (by decide) rfl (fun _ => rfl) (fun x18 => ?_)
    refine kw_goto (tgt := 79) C d_Picture_begin_109 (by decide) ?_
    exact kw_wk (hk13 x18 σ17) ⟨Or.inr rfl, Or.inl rfl, Or.inl rfl, Or.inl rfl, Or.inl rfl, Or.inl rfl, Or.inr rfl, trivial⟩
/-! Pieces_takeHeader -/
def rm_Pieces_takeHeader : Room := { frames := 3, cells := 0, slots := 0, locals := 81 }
def F_Pieces_takeHeader (n : Nat) (t : Nat) (a0 : Int32) (a1 : Int32) (σ : Mm) : Option (Int32 × Mm) :=
if a1 = 13 then (
kf_let (a0 + 8 : Int32) fun x1 =>
kf_c2 (F_Pieces_wrongInHeader n t x1 σ) fun x2 σ3 =>
if x2 = (-1) then (
Option.bind (gR σ3 (64 * t + 3)) fun o4 =>
Option.bind (gR σ3 (64 * t + 0)) fun o5 =>
kf_c2 (F_Tape_number n o5 x1 σ3) fun x6 σ7 =>
Option.bind (gR σ7 (64 * t + 0)) fun o8 =>
kf_c2 (F_Tape_number n o8 (x1 + 4) σ7) fun x9 σ10 =>
Option.bind (gR σ10 (64 * t + 0)) fun o11 =>
Option.bind (gR σ10 (64 * o11 + 0)) fun o12 =>
kf_let (x1 + 9 : Int32) fun x13 =>
kf_in x13 (mm_kd o12).2.2 <|
Option.bind (gR σ10 (64 * t + 0)) fun o14 =>
Option.bind (gR σ10 (64 * o14 + 0)) fun o15 =>
kf_let (x1 + 8 : Int32) fun x16 =>
kf_in x16 (mm_kd o15).2.2 <|
Option.bind (gR σ10 (64 * t + 0)) fun o17 =>
Option.bind (gR σ10 (64 * o17 + 0)) fun o18 =>
kf_let (x1 + 12 : Int32) fun x19 =>
kf_in x19 (mm_kd o18).2.2 <|
kf_j (α := Int32 × Int32 × Int32 × Int32 × Int32) (fun x21 σ22 =>
Option.bind (F_Picture_begin n o4 x21.1 x21.2.1 x21.2.2.1 x21.2.2.2.1 x21.2.2.2.2 σ22) fun σ23 =>
kf_z 1 (some (1, σ23))) fun k20 =>
if (gB σ10 o18 x19.toNatClampNeg) = 1 then (
k20 (x6, x9, gB σ10 o12 x13.toNatClampNeg, gB σ10 o15 x16.toNatClampNeg, 1) σ10) else (
k20 (x6, x9, gB σ10 o12 x13.toNatClampNeg, gB σ10 o15 x16.toNatClampNeg, 0) σ10)) else (
Option.bind (gR σ3 (64 * t + 1)) fun o24 =>
kf_c2 (F_Fault_refuse n o24 9 (x1 + x2) σ3) fun x25 σ26 =>
kf_z x25 (some (x25, σ26)))) else (
Option.bind (gR σ (64 * t + 1)) fun o27 =>
kf_c2 (F_Fault_refuse n o27 8 a0 σ) fun x28 σ29 =>
kf_z x28 (some (x28, σ29)))
theorem d_Pieces_takeHeader_0 : decode prog_8_method_7_code 0 = .ok (.iload_n 2, 1) := by decide +kernel
theorem d_Pieces_takeHeader_1 : decode prog_8_method_7_code 1 = .ok (.bipush 13, 2) := by decide +kernel
theorem d_Pieces_takeHeader_3 : decode prog_8_method_7_code 3 = .ok (.if_icmp .eq 14, 3) := by decide +kernel
theorem d_Pieces_takeHeader_6 : decode prog_8_method_7_code 6 = .ok (.aload_n 0, 1) := by decide +kernel
theorem d_Pieces_takeHeader_7 : decode prog_8_method_7_code 7 = .ok (.getfield 15, 3) := by decide +kernel
theorem d_Pieces_takeHeader_10 : decode prog_8_method_7_code 10 = .ok (.bipush 8, 2) := by decide +kernel
theorem d_Pieces_takeHeader_12 : decode prog_8_method_7_code 12 = .ok (.iload_n 1, 1) := by decide +kernel
theorem d_Pieces_takeHeader_13 : decode prog_8_method_7_code 13 = .ok (.invokevirtual 58, 3) := by decide +kernel
theorem d_Pieces_takeHeader_16 : decode prog_8_method_7_code 16 = .ok (.ireturn, 1) := by decide +kernel
theorem d_Pieces_takeHeader_17 : decode prog_8_method_7_code 17 = .ok (.iload_n 1, 1) := by decide +kernel
theorem d_Pieces_takeHeader_18 : decode prog_8_method_7_code 18 = .ok (.bipush 8, 2) := by decide +kernel
theorem d_Pieces_takeHeader_20 : decode prog_8_method_7_code 20 = .ok (.iadd, 1) := by decide +kernel
theorem d_Pieces_takeHeader_21 : decode prog_8_method_7_code 21 = .ok (.istore_n 3, 1) := by decide +kernel
theorem d_Pieces_takeHeader_22 : decode prog_8_method_7_code 22 = .ok (.aload_n 0, 1) := by decide +kernel
theorem d_Pieces_takeHeader_23 : decode prog_8_method_7_code 23 = .ok (.iload_n 3, 1) := by decide +kernel
theorem d_Pieces_takeHeader_24 : decode prog_8_method_7_code 24 = .ok (.invokevirtual 112, 3) := by decide +kernel
theorem d_Pieces_takeHeader_27 : decode prog_8_method_7_code 27 = .ok (.istore 4, 2) := by decide +kernel
theorem d_Pieces_takeHeader_29 : decode prog_8_method_7_code 29 = .ok (.iload 4, 2) := by decide +kernel
theorem d_Pieces_takeHeader_31 : decode prog_8_method_7_code 31 = .ok (.iconst (-1), 1) := by decide +kernel
theorem d_Pieces_takeHeader_32 : decode prog_8_method_7_code 32 = .ok (.if_icmp .eq 17, 3) := by decide +kernel
theorem d_Pieces_takeHeader_35 : decode prog_8_method_7_code 35 = .ok (.aload_n 0, 1) := by decide +kernel
theorem d_Pieces_takeHeader_36 : decode prog_8_method_7_code 36 = .ok (.getfield 15, 3) := by decide +kernel
theorem d_Pieces_takeHeader_39 : decode prog_8_method_7_code 39 = .ok (.bipush 9, 2) := by decide +kernel
theorem d_Pieces_takeHeader_41 : decode prog_8_method_7_code 41 = .ok (.iload_n 3, 1) := by decide +kernel
theorem d_Pieces_takeHeader_42 : decode prog_8_method_7_code 42 = .ok (.iload 4, 2) := by decide +kernel
theorem d_Pieces_takeHeader_44 : decode prog_8_method_7_code 44 = .ok (.iadd, 1) := by decide +kernel
theorem d_Pieces_takeHeader_45 : decode prog_8_method_7_code 45 = .ok (.invokevirtual 58, 3) := by decide +kernel
theorem d_Pieces_takeHeader_48 : decode prog_8_method_7_code 48 = .ok (.ireturn, 1) := by decide +kernel
theorem d_Pieces_takeHeader_49 : decode prog_8_method_7_code 49 = .ok (.aload_n 0, 1) := by decide +kernel
theorem d_Pieces_takeHeader_50 : decode prog_8_method_7_code 50 = .ok (.getfield 23, 3) := by decide +kernel
theorem d_Pieces_takeHeader_53 : decode prog_8_method_7_code 53 = .ok (.aload_n 0, 1) := by decide +kernel
theorem d_Pieces_takeHeader_54 : decode prog_8_method_7_code 54 = .ok (.getfield 9, 3) := by decide +kernel
theorem d_Pieces_takeHeader_57 : decode prog_8_method_7_code 57 = .ok (.iload_n 3, 1) := by decide +kernel
theorem d_Pieces_takeHeader_58 : decode prog_8_method_7_code 58 = .ok (.invokevirtual 73, 3) := by decide +kernel
theorem d_Pieces_takeHeader_61 : decode prog_8_method_7_code 61 = .ok (.aload_n 0, 1) := by decide +kernel
theorem d_Pieces_takeHeader_62 : decode prog_8_method_7_code 62 = .ok (.getfield 9, 3) := by decide +kernel
theorem d_Pieces_takeHeader_65 : decode prog_8_method_7_code 65 = .ok (.iload_n 3, 1) := by decide +kernel
theorem d_Pieces_takeHeader_66 : decode prog_8_method_7_code 66 = .ok (.iconst 4, 1) := by decide +kernel
theorem d_Pieces_takeHeader_67 : decode prog_8_method_7_code 67 = .ok (.iadd, 1) := by decide +kernel
theorem d_Pieces_takeHeader_68 : decode prog_8_method_7_code 68 = .ok (.invokevirtual 73, 3) := by decide +kernel
theorem d_Pieces_takeHeader_71 : decode prog_8_method_7_code 71 = .ok (.aload_n 0, 1) := by decide +kernel
theorem d_Pieces_takeHeader_72 : decode prog_8_method_7_code 72 = .ok (.getfield 9, 3) := by decide +kernel
theorem d_Pieces_takeHeader_75 : decode prog_8_method_7_code 75 = .ok (.getfield 55, 3) := by decide +kernel
theorem d_Pieces_takeHeader_78 : decode prog_8_method_7_code 78 = .ok (.iload_n 3, 1) := by decide +kernel
theorem d_Pieces_takeHeader_79 : decode prog_8_method_7_code 79 = .ok (.bipush 9, 2) := by decide +kernel
theorem d_Pieces_takeHeader_81 : decode prog_8_method_7_code 81 = .ok (.iadd, 1) := by decide +kernel
theorem d_Pieces_takeHeader_82 : decode prog_8_method_7_code 82 = .ok (.iaload, 1) := by decide +kernel
theorem d_Pieces_takeHeader_83 : decode prog_8_method_7_code 83 = .ok (.aload_n 0, 1) := by decide +kernel
theorem d_Pieces_takeHeader_84 : decode prog_8_method_7_code 84 = .ok (.getfield 9, 3) := by decide +kernel
theorem d_Pieces_takeHeader_87 : decode prog_8_method_7_code 87 = .ok (.getfield 55, 3) := by decide +kernel
theorem d_Pieces_takeHeader_90 : decode prog_8_method_7_code 90 = .ok (.iload_n 3, 1) := by decide +kernel
theorem d_Pieces_takeHeader_91 : decode prog_8_method_7_code 91 = .ok (.bipush 8, 2) := by decide +kernel
theorem d_Pieces_takeHeader_93 : decode prog_8_method_7_code 93 = .ok (.iadd, 1) := by decide +kernel
theorem d_Pieces_takeHeader_94 : decode prog_8_method_7_code 94 = .ok (.iaload, 1) := by decide +kernel
theorem d_Pieces_takeHeader_95 : decode prog_8_method_7_code 95 = .ok (.aload_n 0, 1) := by decide +kernel
theorem d_Pieces_takeHeader_96 : decode prog_8_method_7_code 96 = .ok (.getfield 9, 3) := by decide +kernel
theorem d_Pieces_takeHeader_99 : decode prog_8_method_7_code 99 = .ok (.getfield 55, 3) := by decide +kernel
theorem d_Pieces_takeHeader_102 : decode prog_8_method_7_code 102 = .ok (.iload_n 3, 1) := by decide +kernel
theorem d_Pieces_takeHeader_103 : decode prog_8_method_7_code 103 = .ok (.bipush 12, 2) := by decide +kernel
theorem d_Pieces_takeHeader_105 : decode prog_8_method_7_code 105 = .ok (.iadd, 1) := by decide +kernel
theorem d_Pieces_takeHeader_106 : decode prog_8_method_7_code 106 = .ok (.iaload, 1) := by decide +kernel
theorem d_Pieces_takeHeader_107 : decode prog_8_method_7_code 107 = .ok (.iconst 1, 1) := by decide +kernel
theorem d_Pieces_takeHeader_108 : decode prog_8_method_7_code 108 = .ok (.if_icmp .ne 7, 3) := by decide +kernel
theorem d_Pieces_takeHeader_111 : decode prog_8_method_7_code 111 = .ok (.iconst 1, 1) := by decide +kernel
theorem d_Pieces_takeHeader_112 : decode prog_8_method_7_code 112 = .ok (.goto 4, 3) := by decide +kernel
theorem d_Pieces_takeHeader_115 : decode prog_8_method_7_code 115 = .ok (.iconst 0, 1) := by decide +kernel
theorem d_Pieces_takeHeader_116 : decode prog_8_method_7_code 116 = .ok (.invokevirtual 115, 3) := by decide +kernel
theorem d_Pieces_takeHeader_119 : decode prog_8_method_7_code 119 = .ok (.iconst 1, 1) := by decide +kernel
theorem d_Pieces_takeHeader_120 : decode prog_8_method_7_code 120 = .ok (.ireturn, 1) := by decide +kernel
set_option maxRecDepth 100000 in
set_option maxHeartbeats 4000000 in
theorem c_Pieces_takeHeader {l0 : Launch} (hl : l0.stackTraces = false) (n : Nat) (ids : List Nat) {t : Nat} (ht : mm_ok ids t 1 5) (a0 : Int32) (a1 : Int32) (σ : Mm) : kw_C l0 y_Pieces_takeHeader (Cond.code y_Pieces_takeHeader prog_8_method_7_code 5 (some .boolean) :: kw_Ts) rm_Pieces_takeHeader kw_oi ids [] [.ref t, .int a0, .int a1] σ (F_Pieces_takeHeader n t a0 a1 σ) := by
  refine kw_start (L0 := [some (.ref t), some (.int a0), some (.int a1), none, none]) hl (by decide +kernel) (Nat.le_of_ble_eq_true rfl) rfl (fun Γ ad C Ce => ?_)
  unfold F_Pieces_takeHeader
  refine kw_iload_n C d_Pieces_takeHeader_0 rfl ?_
  refine kw_bipush (v := 13) C d_Pieces_takeHeader_1 (by decide) ?_
  refine kw_icmp_eq (tgt := 17) C d_Pieces_takeHeader_3 (by decide) ?_ ?_
  · refine kw_iload_n C d_Pieces_takeHeader_17 rfl ?_
    refine kw_bipush (v := 8) C d_Pieces_takeHeader_18 (by decide) ?_
    refine kw_iadd C d_Pieces_takeHeader_20 ?_
    refine kw_leti (fun x1 => ?_)
    refine kw_istore_n (L' := [some (.ref t), some (.int a0), some (.int a1), some (.int x1), none]) C d_Pieces_takeHeader_21 (by decide) rfl ?_
    refine kw_aload_n C d_Pieces_takeHeader_22 rfl ?_
    refine kw_iload_n C d_Pieces_takeHeader_23 rfl ?_
    refine kw_callVi (cl' := 0) (sl' := 0) (As := [.int x1]) C (c_Pieces_wrongInHeader hl n ids ht x1 σ) mi_Pieces_112 v_Pieces_wrongInHeader ⟨_, _, rfl⟩ ht ⟨Nat.le_of_ble_eq_true rfl, Nat.le_of_ble_eq_true rfl⟩ (Nat.le_of_ble_eq_true rfl) ⟨Nat.le_of_ble_eq_true rfl, Nat.le_of_ble_eq_true rfl⟩ ⟨rfl, rfl⟩ rfl d_Pieces_takeHeader_24 (fun x2 σ3 => ?_)
    refine kw_istore (L' := [some (.ref t), some (.int a0), some (.int a1), some (.int x1), some (.int x2)]) C d_Pieces_takeHeader_27 (by decide) rfl ?_
    refine kw_iload C d_Pieces_takeHeader_29 rfl ?_
    refine kw_iconst (v := -1) C d_Pieces_takeHeader_31 (by decide) ?_
    refine kw_icmp_eq (tgt := 49) C d_Pieces_takeHeader_32 (by decide) ?_ ?_
    · refine kw_aload_n C d_Pieces_takeHeader_49 rfl ?_
      refine kw_getR C fi_Pieces_23 rfl rfl ht d_Pieces_takeHeader_50 (fun o4 ho4 => ?_)
      refine kw_aload_n C d_Pieces_takeHeader_53 rfl ?_
      refine kw_getR C fi_Pieces_9 rfl rfl ht d_Pieces_takeHeader_54 (fun o5 ho5 => ?_)
      refine kw_iload_n C d_Pieces_takeHeader_57 rfl ?_
      refine kw_callVi (cl' := 0) (sl' := 0) (As := [.int x1]) C (c_Tape_number hl n ids ho5 x1 σ3) mi_Pieces_73 v_Tape_number ⟨_, _, rfl⟩ ho5 ⟨Nat.le_of_ble_eq_true rfl, Nat.le_of_ble_eq_true rfl⟩ (Nat.le_of_ble_eq_true rfl) ⟨Nat.le_of_ble_eq_true rfl, Nat.le_of_ble_eq_true rfl⟩ ⟨rfl, rfl⟩ rfl d_Pieces_takeHeader_58 (fun x6 σ7 => ?_)
      refine kw_aload_n C d_Pieces_takeHeader_61 rfl ?_
      refine kw_getR C fi_Pieces_9 rfl rfl ht d_Pieces_takeHeader_62 (fun o8 ho8 => ?_)
      refine kw_iload_n C d_Pieces_takeHeader_65 rfl ?_
      refine kw_iconst (v := 4) C d_Pieces_takeHeader_66 (by decide) ?_
      refine kw_iadd C d_Pieces_takeHeader_67 ?_
      refine kw_callVi (cl' := 0) (sl' := 0) (As := [.int (x1 + 4)]) C (c_Tape_number hl n ids ho8 (x1 + 4) σ7) mi_Pieces_73 v_Tape_number ⟨_, _, rfl⟩ ho8 ⟨Nat.le_of_ble_eq_true rfl, Nat.le_of_ble_eq_true rfl⟩ (Nat.le_of_ble_eq_true rfl) ⟨Nat.le_of_ble_eq_true rfl, Nat.le_of_ble_eq_true rfl⟩ ⟨rfl, rfl⟩ rfl d_Pieces_takeHeader_68 (fun x9 σ10 => ?_)
      refine kw_aload_n C d_Pieces_takeHeader_71 rfl ?_
      refine kw_getR C fi_Pieces_9 rfl rfl ht d_Pieces_takeHeader_72 (fun o11 ho11 => ?_)
      refine kw_getR C fi_Pieces_55 rfl rfl ho11 d_Pieces_takeHeader_75 (fun o12 ho12 => ?_)
      refine kw_iload_n C d_Pieces_takeHeader_78 rfl ?_
      refine kw_bipush (v := 9) C d_Pieces_takeHeader_79 (by decide) ?_
      refine kw_iadd C d_Pieces_takeHeader_81 ?_
      refine kw_leti (fun x13 => ?_)
      refine kw_iald C (Or.inl ⟨ho12.1, ho12.2.1⟩) d_Pieces_takeHeader_82 ?_
      refine kw_aload_n C d_Pieces_takeHeader_83 rfl ?_
      refine kw_getR C fi_Pieces_9 rfl rfl ht d_Pieces_takeHeader_84 (fun o14 ho14 => ?_)
      refine kw_getR C fi_Pieces_55 rfl rfl ho14 d_Pieces_takeHeader_87 (fun o15 ho15 => ?_)
      refine kw_iload_n C d_Pieces_takeHeader_90 rfl ?_
      refine kw_bipush (v := 8) C d_Pieces_takeHeader_91 (by decide) ?_
      refine kw_iadd C d_Pieces_takeHeader_93 ?_
      refine kw_leti (fun x16 => ?_)
      refine kw_iald C (Or.inl ⟨ho15.1, ho15.2.1⟩) d_Pieces_takeHeader_94 ?_
      refine kw_aload_n C d_Pieces_takeHeader_95 rfl ?_
      refine kw_getR C fi_Pieces_9 rfl rfl ht d_Pieces_takeHeader_96 (fun o17 ho17 => ?_)
      refine kw_getR C fi_Pieces_55 rfl rfl ho17 d_Pieces_takeHeader_99 (fun o18 ho18 => ?_)
      refine kw_iload_n C d_Pieces_takeHeader_102 rfl ?_
      refine kw_bipush (v := 12) C d_Pieces_takeHeader_103 (by decide) ?_
      refine kw_iadd C d_Pieces_takeHeader_105 ?_
      refine kw_leti (fun x19 => ?_)
      refine kw_iald C (Or.inl ⟨ho18.1, ho18.2.1⟩) d_Pieces_takeHeader_106 ?_
      refine kw_iconst (v := 1) C d_Pieces_takeHeader_107 (by decide) ?_
      refine kw_j (α := Int32 × Int32 × Int32 × Int32 × Int32) (pcj := 116) (Lj := fun x21 => [none, none, none, none, none]) (stj := fun x21 => [.int x21.2.2.2.2, .int x21.2.2.2.1, .int x21.2.2.1, .int x21.2.1, .int x21.1, .ref o4]) (fun x21 σ22 => ?_) (fun k20 hk20 => ?_)
      · refine kw_callVv (cl' := 0) (sl' := 0) (As := [.int x21.1, .int x21.2.1, .int x21.2.2.1, .int x21.2.2.2.1, .int x21.2.2.2.2]) C (c_Picture_begin hl n ids ho4 x21.1 x21.2.1 x21.2.2.1 x21.2.2.2.1 x21.2.2.2.2 σ22) mi_Pieces_115 v_Picture_begin ⟨_, _, rfl⟩ ho4 ⟨Nat.le_of_ble_eq_true rfl, Nat.le_of_ble_eq_true rfl⟩ (Nat.le_of_ble_eq_true rfl) ⟨Nat.le_of_ble_eq_true rfl, Nat.le_of_ble_eq_true rfl⟩ ⟨rfl, rfl⟩ rfl d_Pieces_takeHeader_116 (fun σ23 => ?_)
        refine kw_iconst (v := 1) C d_Pieces_takeHeader_119 (by decide) ?_
        exact kw_zret C Ce rfl (by simp) (fun _ _ => rfl) (Nat.le_of_ble_eq_true rfl) (Nat.le_of_ble_eq_true rfl) rfl d_Pieces_takeHeader_120
      · refine kw_icmp_ne (tgt := 115) C d_Pieces_takeHeader_108 (by decide) ?_ ?_
        · refine kw_iconst (v := 0) C d_Pieces_takeHeader_115 (by decide) ?_
          exact kw_wk (hk20 (x6, x9, gB σ10 o12 x13.toNatClampNeg, gB σ10 o15 x16.toNatClampNeg, 0) σ10) ⟨Or.inl rfl, Or.inl rfl, Or.inl rfl, Or.inl rfl, Or.inl rfl, trivial⟩
        · refine kw_iconst (v := 1) C d_Pieces_takeHeader_111 (by decide) ?_
          refine kw_goto (tgt := 116) C d_Pieces_takeHeader_112 (by decide) ?_
          exact kw_wk (hk20 (x6, x9, gB σ10 o12 x13.toNatClampNeg, gB σ10 o15 x16.toNatClampNeg, 1) σ10) ⟨Or.inl rfl, Or.inl rfl, Or.inl rfl, Or.inl rfl, Or.inl rfl, trivial⟩
    · refine kw_aload_n C d_Pieces_takeHeader_35 rfl ?_
      refine kw_getR C fi_Pieces_15 rfl rfl ht d_Pieces_takeHeader_36 (fun o24 ho24 => ?_)
      refine kw_bipush (v := 9) C d_Pieces_takeHeader_39 (by decide) ?_
      refine kw_iload_n C d_Pieces_takeHeader_41 rfl ?_
      refine kw_iload C d_Pieces_takeHeader_42 rfl ?_
      refine kw_iadd C d_Pieces_takeHeader_44 ?_
      refine kw_callVi (cl' := 0) (sl' := 0) (As := [.int 9, .int (x1 + x2)]) C (c_Fault_refuse hl n ids ho24 9 (x1 + x2) σ3) mi_Pieces_58 v_Fault_refuse ⟨_, _, rfl⟩ ho24 ⟨Nat.le_of_ble_eq_true rfl, Nat.le_of_ble_eq_true rfl⟩ (Nat.le_of_ble_eq_true rfl) ⟨Nat.le_of_ble_eq_true rfl, Nat.le_of_ble_eq_true rfl⟩ ⟨rfl, rfl⟩ rfl d_Pieces_takeHeader_45 (fun x25 σ26 => ?_)
      exact kw_zret C Ce rfl (by simp) (fun _ _ => rfl) (Nat.le_of_ble_eq_true rfl) (Nat.le_of_ble_eq_true rfl) rfl d_Pieces_takeHeader_48
  · refine kw_aload_n C d_Pieces_takeHeader_6 rfl ?_
    refine kw_getR C fi_Pieces_15 rfl rfl ht d_Pieces_takeHeader_7 (fun o27 ho27 => ?_)
    refine kw_bipush (v := 8) C d_Pieces_takeHeader_10 (by decide) ?_
    refine kw_iload_n C d_Pieces_takeHeader_12 rfl ?_
    refine kw_callVi (cl' := 0) (sl' := 0) (As := [.int 8, .int a0]) C (c_Fault_refuse hl n ids ho27 8 a0 σ) mi_Pieces_58 v_Fault_refuse ⟨_, _, rfl⟩ ho27 ⟨Nat.le_of_ble_eq_true rfl, Nat.le_of_ble_eq_true rfl⟩ (Nat.le_of_ble_eq_true rfl) ⟨Nat.le_of_ble_eq_true rfl, Nat.le_of_ble_eq_true rfl⟩ ⟨rfl, rfl⟩ rfl d_Pieces_takeHeader_13 (fun x28 σ29 => ?_)
    exact kw_zret C Ce rfl (by simp) (fun _ _ => rfl) (Nat.le_of_ble_eq_true rfl) (Nat.le_of_ble_eq_true rfl) rfl d_Pieces_takeHeader_16
/-! Picture_mostColours -/
def rm_Picture_mostColours : Room := { frames := 0, cells := 0, slots := 0, locals := 0 }
def F_Picture_mostColours (n : Nat) (t : Nat) (σ : Mm) : Option (Int32 × Mm) :=
kf_j (α := Int32) (fun x2 σ3 =>
some (x2, σ3)) fun k1 =>
if (gS σ (64 * t + 2)) = 3 then (
k1 ((1 : Int32) <<< ((gS σ (64 * t + 3)) &&& 31)) σ) else (
k1 256 σ)
theorem d_Picture_mostColours_0 : decode prog_7_method_10_code 0 = .ok (.aload_n 0, 1) := by decide +kernel
theorem d_Picture_mostColours_1 : decode prog_7_method_10_code 1 = .ok (.getfield 37, 3) := by decide +kernel
theorem d_Picture_mostColours_4 : decode prog_7_method_10_code 4 = .ok (.iconst 3, 1) := by decide +kernel
theorem d_Picture_mostColours_5 : decode prog_7_method_10_code 5 = .ok (.if_icmp .ne 12, 3) := by decide +kernel
theorem d_Picture_mostColours_8 : decode prog_7_method_10_code 8 = .ok (.iconst 1, 1) := by decide +kernel
theorem d_Picture_mostColours_9 : decode prog_7_method_10_code 9 = .ok (.aload_n 0, 1) := by decide +kernel
theorem d_Picture_mostColours_10 : decode prog_7_method_10_code 10 = .ok (.getfield 40, 3) := by decide +kernel
theorem d_Picture_mostColours_13 : decode prog_7_method_10_code 13 = .ok (.ishl, 1) := by decide +kernel
theorem d_Picture_mostColours_14 : decode prog_7_method_10_code 14 = .ok (.goto 6, 3) := by decide +kernel
theorem d_Picture_mostColours_17 : decode prog_7_method_10_code 17 = .ok (.sipush 256, 3) := by decide +kernel
theorem d_Picture_mostColours_20 : decode prog_7_method_10_code 20 = .ok (.ireturn, 1) := by decide +kernel
set_option maxRecDepth 100000 in
set_option maxHeartbeats 4000000 in
theorem c_Picture_mostColours {l0 : Launch} (hl : l0.stackTraces = false) (n : Nat) (ids : List Nat) {t : Nat} (ht : mm_ok ids t 1 10)  (σ : Mm) : kw_C l0 y_Picture_mostColours (Cond.code y_Picture_mostColours prog_7_method_10_code 1 (some .int) :: kw_Ts) rm_Picture_mostColours kw_oi ids [] [.ref t] σ (F_Picture_mostColours n t σ) := by
  refine kw_start (L0 := [some (.ref t)]) hl (by decide +kernel) (Nat.le_of_ble_eq_true rfl) rfl (fun Γ ad C Ce => ?_)
  unfold F_Picture_mostColours
  refine kw_aload_n C d_Picture_mostColours_0 rfl ?_
  refine kw_getI C fi_Picture_37 (Or.inl rfl) ht d_Picture_mostColours_1 ?_
  refine kw_iconst (v := 3) C d_Picture_mostColours_4 (by decide) ?_
  refine kw_j (α := Int32) (pcj := 20) (Lj := fun x2 => [none]) (stj := fun x2 => [.int x2]) (fun x2 σ3 => ?_) (fun k1 hk1 => ?_)
  · exact kw_iret C Ce rfl (by simp) (fun _ _ => rfl) (Nat.le_of_ble_eq_true rfl) (Nat.le_of_ble_eq_true rfl) rfl d_Picture_mostColours_20
  · refine kw_icmp_ne (tgt := 17) C d_Picture_mostColours_5 (by decide) ?_ ?_
    · refine kw_sipush (v := 256) C d_Picture_mostColours_17 (by decide) ?_
      exact kw_wk (hk1 256 σ) ⟨Or.inl rfl, trivial⟩
    · refine kw_iconst (v := 1) C d_Picture_mostColours_8 (by decide) ?_
      refine kw_aload_n C d_Picture_mostColours_9 rfl ?_
      refine kw_getI C fi_Picture_40 (Or.inl rfl) ht d_Picture_mostColours_10 ?_
      refine kw_ishl C d_Picture_mostColours_13 ?_
      refine kw_goto (tgt := 20) C d_Picture_mostColours_14 (by decide) ?_
      exact kw_wk (hk1 ((1 : Int32) <<< ((gS σ (64 * t + 3)) &&& 31)) σ) ⟨Or.inl rfl, trivial⟩
/-! Picture_addColour -/
def rm_Picture_addColour : Room := { frames := 0, cells := 0, slots := 0, locals := 0 }
def F_Picture_addColour (n : Nat) (t : Nat) (a0 : Int32) (a1 : Int32) (a2 : Int32) (σ : Mm) : Option (Mm) :=
kf_j (α := Unit) (fun x2 σ3 =>
some σ3) fun k1 =>
if 256 ≤ (gS σ (64 * t + 6)) then (
k1 () σ) else (
Option.bind (gR σ (64 * t + 9)) fun o4 =>
kf_in ((3 : Int32) * (gS σ (64 * t + 6))) (mm_kd o4).2.2 <| kf_let (pB σ o4 ((3 : Int32) * (gS σ (64 * t + 6))).toNatClampNeg (a0 &&& 255)) fun σ5 =>
Option.bind (gR σ5 (64 * t + 9)) fun o6 =>
kf_in (((3 : Int32) * (gS σ5 (64 * t + 6))) + 1) (mm_kd o6).2.2 <| kf_let (pB σ5 o6 (((3 : Int32) * (gS σ5 (64 * t + 6))) + 1).toNatClampNeg (a1 &&& 255)) fun σ7 =>
Option.bind (gR σ7 (64 * t + 9)) fun o8 =>
kf_in (((3 : Int32) * (gS σ7 (64 * t + 6))) + 2) (mm_kd o8).2.2 <| kf_let (pB σ7 o8 (((3 : Int32) * (gS σ7 (64 * t + 6))) + 2).toNatClampNeg (a2 &&& 255)) fun σ9 =>
kf_let (pS σ9 (64 * t + 6) ((gS σ9 (64 * t + 6)) + 1)) fun σ10 =>
k1 () σ10)
theorem d_Picture_addColour_0 : decode prog_7_method_14_code 0 = .ok (.aload_n 0, 1) := by decide +kernel
theorem d_Picture_addColour_1 : decode prog_7_method_14_code 1 = .ok (.getfield 54, 3) := by decide +kernel
theorem d_Picture_addColour_4 : decode prog_7_method_14_code 4 = .ok (.sipush 256, 3) := by decide +kernel
theorem d_Picture_addColour_7 : decode prog_7_method_14_code 7 = .ok (.if_icmp .ge 65, 3) := by decide +kernel
theorem d_Picture_addColour_10 : decode prog_7_method_14_code 10 = .ok (.aload_n 0, 1) := by decide +kernel
theorem d_Picture_addColour_11 : decode prog_7_method_14_code 11 = .ok (.getfield 13, 3) := by decide +kernel
theorem d_Picture_addColour_14 : decode prog_7_method_14_code 14 = .ok (.iconst 3, 1) := by decide +kernel
theorem d_Picture_addColour_15 : decode prog_7_method_14_code 15 = .ok (.aload_n 0, 1) := by decide +kernel
theorem d_Picture_addColour_16 : decode prog_7_method_14_code 16 = .ok (.getfield 54, 3) := by decide +kernel
theorem d_Picture_addColour_19 : decode prog_7_method_14_code 19 = .ok (.imul, 1) := by decide +kernel
theorem d_Picture_addColour_20 : decode prog_7_method_14_code 20 = .ok (.iload_n 1, 1) := by decide +kernel
theorem d_Picture_addColour_21 : decode prog_7_method_14_code 21 = .ok (.sipush 255, 3) := by decide +kernel
theorem d_Picture_addColour_24 : decode prog_7_method_14_code 24 = .ok (.iand, 1) := by decide +kernel
theorem d_Picture_addColour_25 : decode prog_7_method_14_code 25 = .ok (.iastore, 1) := by decide +kernel
theorem d_Picture_addColour_26 : decode prog_7_method_14_code 26 = .ok (.aload_n 0, 1) := by decide +kernel
theorem d_Picture_addColour_27 : decode prog_7_method_14_code 27 = .ok (.getfield 13, 3) := by decide +kernel
theorem d_Picture_addColour_30 : decode prog_7_method_14_code 30 = .ok (.iconst 3, 1) := by decide +kernel
theorem d_Picture_addColour_31 : decode prog_7_method_14_code 31 = .ok (.aload_n 0, 1) := by decide +kernel
theorem d_Picture_addColour_32 : decode prog_7_method_14_code 32 = .ok (.getfield 54, 3) := by decide +kernel
theorem d_Picture_addColour_35 : decode prog_7_method_14_code 35 = .ok (.imul, 1) := by decide +kernel
theorem d_Picture_addColour_36 : decode prog_7_method_14_code 36 = .ok (.iconst 1, 1) := by decide +kernel
theorem d_Picture_addColour_37 : decode prog_7_method_14_code 37 = .ok (.iadd, 1) := by decide +kernel
theorem d_Picture_addColour_38 : decode prog_7_method_14_code 38 = .ok (.iload_n 2, 1) := by decide +kernel
theorem d_Picture_addColour_39 : decode prog_7_method_14_code 39 = .ok (.sipush 255, 3) := by decide +kernel
theorem d_Picture_addColour_42 : decode prog_7_method_14_code 42 = .ok (.iand, 1) := by decide +kernel
theorem d_Picture_addColour_43 : decode prog_7_method_14_code 43 = .ok (.iastore, 1) := by decide +kernel
theorem d_Picture_addColour_44 : decode prog_7_method_14_code 44 = .ok (.aload_n 0, 1) := by decide +kernel
theorem d_Picture_addColour_45 : decode prog_7_method_14_code 45 = .ok (.getfield 13, 3) := by decide +kernel
theorem d_Picture_addColour_48 : decode prog_7_method_14_code 48 = .ok (.iconst 3, 1) := by decide +kernel
theorem d_Picture_addColour_49 : decode prog_7_method_14_code 49 = .ok (.aload_n 0, 1) := by decide +kernel
theorem d_Picture_addColour_50 : decode prog_7_method_14_code 50 = .ok (.getfield 54, 3) := by decide +kernel
theorem d_Picture_addColour_53 : decode prog_7_method_14_code 53 = .ok (.imul, 1) := by decide +kernel
theorem d_Picture_addColour_54 : decode prog_7_method_14_code 54 = .ok (.iconst 2, 1) := by decide +kernel
theorem d_Picture_addColour_55 : decode prog_7_method_14_code 55 = .ok (.iadd, 1) := by decide +kernel
theorem d_Picture_addColour_56 : decode prog_7_method_14_code 56 = .ok (.iload_n 3, 1) := by decide +kernel
theorem d_Picture_addColour_57 : decode prog_7_method_14_code 57 = .ok (.sipush 255, 3) := by decide +kernel
theorem d_Picture_addColour_60 : decode prog_7_method_14_code 60 = .ok (.iand, 1) := by decide +kernel
theorem d_Picture_addColour_61 : decode prog_7_method_14_code 61 = .ok (.iastore, 1) := by decide +kernel
theorem d_Picture_addColour_62 : decode prog_7_method_14_code 62 = .ok (.aload_n 0, 1) := by decide +kernel
theorem d_Picture_addColour_63 : decode prog_7_method_14_code 63 = .ok (.dup, 1) := by decide +kernel
theorem d_Picture_addColour_64 : decode prog_7_method_14_code 64 = .ok (.getfield 54, 3) := by decide +kernel
theorem d_Picture_addColour_67 : decode prog_7_method_14_code 67 = .ok (.iconst 1, 1) := by decide +kernel
theorem d_Picture_addColour_68 : decode prog_7_method_14_code 68 = .ok (.iadd, 1) := by decide +kernel
theorem d_Picture_addColour_69 : decode prog_7_method_14_code 69 = .ok (.putfield 54, 3) := by decide +kernel
theorem d_Picture_addColour_72 : decode prog_7_method_14_code 72 = .ok (.return_, 1) := by decide +kernel
set_option maxRecDepth 100000 in
set_option maxHeartbeats 4000000 in
theorem c_Picture_addColour {l0 : Launch} (hl : l0.stackTraces = false) (n : Nat) (ids : List Nat) {t : Nat} (ht : mm_ok ids t 1 10) (a0 : Int32) (a1 : Int32) (a2 : Int32) (σ : Mm) : kw_C l0 y_Picture_addColour (Cond.code y_Picture_addColour prog_7_method_14_code 4 none :: kw_Ts) rm_Picture_addColour kw_ov ids [] [.ref t, .int a0, .int a1, .int a2] σ (F_Picture_addColour n t a0 a1 a2 σ) := by
  refine kw_start (L0 := [some (.ref t), some (.int a0), some (.int a1), some (.int a2)]) hl (by decide +kernel) (Nat.le_of_ble_eq_true rfl) rfl (fun Γ ad C Ce => ?_)
  unfold F_Picture_addColour
  refine kw_aload_n C d_Picture_addColour_0 rfl ?_
  refine kw_getI C fi_Picture_54 (Or.inl rfl) ht d_Picture_addColour_1 ?_
  refine kw_sipush (v := 256) C d_Picture_addColour_4 (by decide) ?_
  refine kw_j (α := Unit) (pcj := 72) (Lj := fun x2 => [none, none, none, none]) (stj := fun x2 => []) (fun x2 σ3 => ?_) (fun k1 hk1 => ?_)
  · exact kw_vret C Ce rfl (by simp) (fun _ _ => rfl) (Nat.le_of_ble_eq_true rfl) (Nat.le_of_ble_eq_true rfl) rfl d_Picture_addColour_72
  · refine kw_icmp_ge (tgt := 72) C d_Picture_addColour_7 (by decide) ?_ ?_
    · exact kw_wk (hk1 () σ) ⟨Or.inl rfl, Or.inl rfl, Or.inl rfl, Or.inl rfl, trivial⟩
    · refine kw_aload_n C d_Picture_addColour_10 rfl ?_
      refine kw_getR C fi_Picture_13 rfl rfl ht d_Picture_addColour_11 (fun o4 ho4 => ?_)
      refine kw_iconst (v := 3) C d_Picture_addColour_14 (by decide) ?_
      refine kw_aload_n C d_Picture_addColour_15 rfl ?_
      refine kw_getI C fi_Picture_54 (Or.inl rfl) ht d_Picture_addColour_16 ?_
      refine kw_imul C d_Picture_addColour_19 ?_
      refine kw_iload_n C d_Picture_addColour_20 rfl ?_
      refine kw_sipush (v := 255) C d_Picture_addColour_21 (by decide) ?_
      refine kw_iand C d_Picture_addColour_24 ?_
      refine kw_iast C ho4 d_Picture_addColour_25 (fun σ5 => ?_)
      refine kw_aload_n C d_Picture_addColour_26 rfl ?_
      refine kw_getR C fi_Picture_13 rfl rfl ht d_Picture_addColour_27 (fun o6 ho6 => ?_)
      refine kw_iconst (v := 3) C d_Picture_addColour_30 (by decide) ?_
      refine kw_aload_n C d_Picture_addColour_31 rfl ?_
      refine kw_getI C fi_Picture_54 (Or.inl rfl) ht d_Picture_addColour_32 ?_
      refine kw_imul C d_Picture_addColour_35 ?_
      refine kw_iconst (v := 1) C d_Picture_addColour_36 (by decide) ?_
      refine kw_iadd C d_Picture_addColour_37 ?_
      refine kw_iload_n C d_Picture_addColour_38 rfl ?_
      refine kw_sipush (v := 255) C d_Picture_addColour_39 (by decide) ?_
      refine kw_iand C d_Picture_addColour_42 ?_
      refine kw_iast C ho6 d_Picture_addColour_43 (fun σ7 => ?_)
      refine kw_aload_n C d_Picture_addColour_44 rfl ?_
      refine kw_getR C fi_Picture_13 rfl rfl ht d_Picture_addColour_45 (fun o8 ho8 => ?_)
      refine kw_iconst (v := 3) C d_Picture_addColour_48 (by decide) ?_
      refine kw_aload_n C d_Picture_addColour_49 rfl ?_
      refine kw_getI C fi_Picture_54 (Or.inl rfl) ht d_Picture_addColour_50 ?_
      refine kw_imul C d_Picture_addColour_53 ?_
      refine kw_iconst (v := 2) C d_Picture_addColour_54 (by decide) ?_
      refine kw_iadd C d_Picture_addColour_55 ?_
      refine kw_iload_n C d_Picture_addColour_56 rfl ?_
      refine kw_sipush (v := 255) C d_Picture_addColour_57 (by decide) ?_
      refine kw_iand C d_Picture_addColour_60 ?_
      refine kw_iast C ho8 d_Picture_addColour_61 (fun σ9 => ?_)
      refine kw_aload_n C d_Picture_addColour_62 rfl ?_
      refine kw_dup C d_Picture_addColour_63 rfl ?_
      refine kw_getI C fi_Picture_54 (Or.inl rfl) ht d_Picture_addColour_64 ?_
      refine kw_iconst (v := 1) C d_Picture_addColour_67 (by decide) ?_
      refine kw_iadd C d_Picture_addColour_68 ?_
      refine kw_putI C fi_Picture_54 rfl ht d_Picture_addColour_69 (fun σ10 => ?_)
      exact kw_wk (hk1 () σ10) ⟨Or.inl rfl, Or.inl rfl, Or.inl rfl, Or.inl rfl, trivial⟩
/-! Pieces_takeColours -/
def rm_Pieces_takeColours : Room := { frames := 1, cells := 0, slots := 0, locals := 23 }
def F_Pieces_takeColours (n : Nat) (t : Nat) (a0 : Int32) (a1 : Int32) (σ : Mm) : Option (Int32 × Mm) :=
kf_j (α := Unit) (fun x2 σ3 =>
Option.bind (gR σ3 (64 * t + 1)) fun o4 =>
kf_c2 (F_Fault_refuse n o4 8 a0 σ3) fun x5 σ6 =>
kf_z x5 (some (x5, σ6))) fun k1 =>
if a1 < 3 then (
k1 () σ) else (
kf_nz 3 <|
if (a1 - a1 / 3 * 3) = 0 then (
kf_nz 3 <|
Option.bind (gR σ (64 * t + 3)) fun o7 =>
kf_c2 (F_Picture_mostColours n o7 σ) fun x8 σ9 =>
if (a1 / 3) ≤ x8 then (
kf_let (a0 + 8 : Int32) fun x10 =>
kf_l (α := Int32) n (fun k11 x12 σ13 =>
if ((a0 + 8) + a1) ≤ x12 then (
kf_z 1 <| kf_let (pS σ13 (64 * t + 5) 1) fun σ14 =>
kf_z 1 (some (1, σ14))) else (
Option.bind (gR σ13 (64 * t + 3)) fun o15 =>
Option.bind (gR σ13 (64 * t + 0)) fun o16 =>
Option.bind (gR σ13 (64 * o16 + 0)) fun o17 =>
kf_in x12 (mm_kd o17).2.2 <|
Option.bind (gR σ13 (64 * t + 0)) fun o18 =>
Option.bind (gR σ13 (64 * o18 + 0)) fun o19 =>
kf_let (x12 + 1 : Int32) fun x20 =>
kf_in x20 (mm_kd o19).2.2 <|
Option.bind (gR σ13 (64 * t + 0)) fun o21 =>
Option.bind (gR σ13 (64 * o21 + 0)) fun o22 =>
kf_let (x12 + 2 : Int32) fun x23 =>
kf_in x23 (mm_kd o22).2.2 <|
Option.bind (F_Picture_addColour n o15 (gB σ13 o17 x12.toNatClampNeg) (gB σ13 o19 x20.toNatClampNeg) (gB σ13 o22 x23.toNatClampNeg) σ13) fun σ24 =>
kf_let (x12 + Int32.ofInt 3) fun x25 =>
k11 x25 σ24)) x10 σ9) else (
k1 () σ9)) else (
k1 () σ))
theorem d_Pieces_takeColours_0 : decode prog_8_method_9_code 0 = .ok (.iload_n 2, 1) := by decide +kernel
theorem d_Pieces_takeColours_1 : decode prog_8_method_9_code 1 = .ok (.iconst 3, 1) := by decide +kernel
theorem d_Pieces_takeColours_2 : decode prog_8_method_9_code 2 = .ok (.if_icmp .lt 22, 3) := by decide +kernel
theorem d_Pieces_takeColours_5 : decode prog_8_method_9_code 5 = .ok (.iload_n 2, 1) := by decide +kernel
theorem d_Pieces_takeColours_6 : decode prog_8_method_9_code 6 = .ok (.iconst 3, 1) := by decide +kernel
theorem d_Pieces_takeColours_7 : decode prog_8_method_9_code 7 = .ok (.irem, 1) := by decide +kernel
theorem d_Pieces_takeColours_8 : decode prog_8_method_9_code 8 = .ok (.ifCond .ne 16, 3) := by decide +kernel
theorem d_Pieces_takeColours_11 : decode prog_8_method_9_code 11 = .ok (.iload_n 2, 1) := by decide +kernel
theorem d_Pieces_takeColours_12 : decode prog_8_method_9_code 12 = .ok (.iconst 3, 1) := by decide +kernel
theorem d_Pieces_takeColours_13 : decode prog_8_method_9_code 13 = .ok (.idiv, 1) := by decide +kernel
theorem d_Pieces_takeColours_14 : decode prog_8_method_9_code 14 = .ok (.aload_n 0, 1) := by decide +kernel
theorem d_Pieces_takeColours_15 : decode prog_8_method_9_code 15 = .ok (.getfield 23, 3) := by decide +kernel
theorem d_Pieces_takeColours_18 : decode prog_8_method_9_code 18 = .ok (.invokevirtual 128, 3) := by decide +kernel
theorem d_Pieces_takeColours_21 : decode prog_8_method_9_code 21 = .ok (.if_icmp .le 14, 3) := by decide +kernel
theorem d_Pieces_takeColours_24 : decode prog_8_method_9_code 24 = .ok (.aload_n 0, 1) := by decide +kernel
theorem d_Pieces_takeColours_25 : decode prog_8_method_9_code 25 = .ok (.getfield 15, 3) := by decide +kernel
theorem d_Pieces_takeColours_28 : decode prog_8_method_9_code 28 = .ok (.bipush 8, 2) := by decide +kernel
theorem d_Pieces_takeColours_30 : decode prog_8_method_9_code 30 = .ok (.iload_n 1, 1) := by decide +kernel
theorem d_Pieces_takeColours_31 : decode prog_8_method_9_code 31 = .ok (.invokevirtual 58, 3) := by decide +kernel
theorem d_Pieces_takeColours_34 : decode prog_8_method_9_code 34 = .ok (.ireturn, 1) := by decide +kernel
theorem d_Pieces_takeColours_35 : decode prog_8_method_9_code 35 = .ok (.iload_n 1, 1) := by decide +kernel
theorem d_Pieces_takeColours_36 : decode prog_8_method_9_code 36 = .ok (.bipush 8, 2) := by decide +kernel
theorem d_Pieces_takeColours_38 : decode prog_8_method_9_code 38 = .ok (.iadd, 1) := by decide +kernel
theorem d_Pieces_takeColours_39 : decode prog_8_method_9_code 39 = .ok (.istore_n 3, 1) := by decide +kernel
theorem d_Pieces_takeColours_40 : decode prog_8_method_9_code 40 = .ok (.iload_n 3, 1) := by decide +kernel
theorem d_Pieces_takeColours_41 : decode prog_8_method_9_code 41 = .ok (.iload_n 1, 1) := by decide +kernel
theorem d_Pieces_takeColours_42 : decode prog_8_method_9_code 42 = .ok (.bipush 8, 2) := by decide +kernel
theorem d_Pieces_takeColours_44 : decode prog_8_method_9_code 44 = .ok (.iadd, 1) := by decide +kernel
theorem d_Pieces_takeColours_45 : decode prog_8_method_9_code 45 = .ok (.iload_n 2, 1) := by decide +kernel
theorem d_Pieces_takeColours_46 : decode prog_8_method_9_code 46 = .ok (.iadd, 1) := by decide +kernel
theorem d_Pieces_takeColours_47 : decode prog_8_method_9_code 47 = .ok (.if_icmp .ge 47, 3) := by decide +kernel
theorem d_Pieces_takeColours_50 : decode prog_8_method_9_code 50 = .ok (.aload_n 0, 1) := by decide +kernel
theorem d_Pieces_takeColours_51 : decode prog_8_method_9_code 51 = .ok (.getfield 23, 3) := by decide +kernel
theorem d_Pieces_takeColours_54 : decode prog_8_method_9_code 54 = .ok (.aload_n 0, 1) := by decide +kernel
theorem d_Pieces_takeColours_55 : decode prog_8_method_9_code 55 = .ok (.getfield 9, 3) := by decide +kernel
theorem d_Pieces_takeColours_58 : decode prog_8_method_9_code 58 = .ok (.getfield 55, 3) := by decide +kernel
theorem d_Pieces_takeColours_61 : decode prog_8_method_9_code 61 = .ok (.iload_n 3, 1) := by decide +kernel
theorem d_Pieces_takeColours_62 : decode prog_8_method_9_code 62 = .ok (.iaload, 1) := by decide +kernel
theorem d_Pieces_takeColours_63 : decode prog_8_method_9_code 63 = .ok (.aload_n 0, 1) := by decide +kernel
theorem d_Pieces_takeColours_64 : decode prog_8_method_9_code 64 = .ok (.getfield 9, 3) := by decide +kernel
theorem d_Pieces_takeColours_67 : decode prog_8_method_9_code 67 = .ok (.getfield 55, 3) := by decide +kernel
theorem d_Pieces_takeColours_70 : decode prog_8_method_9_code 70 = .ok (.iload_n 3, 1) := by decide +kernel
theorem d_Pieces_takeColours_71 : decode prog_8_method_9_code 71 = .ok (.iconst 1, 1) := by decide +kernel
theorem d_Pieces_takeColours_72 : decode prog_8_method_9_code 72 = .ok (.iadd, 1) := by decide +kernel
theorem d_Pieces_takeColours_73 : decode prog_8_method_9_code 73 = .ok (.iaload, 1) := by decide +kernel
theorem d_Pieces_takeColours_74 : decode prog_8_method_9_code 74 = .ok (.aload_n 0, 1) := by decide +kernel
theorem d_Pieces_takeColours_75 : decode prog_8_method_9_code 75 = .ok (.getfield 9, 3) := by decide +kernel
theorem d_Pieces_takeColours_78 : decode prog_8_method_9_code 78 = .ok (.getfield 55, 3) := by decide +kernel
theorem d_Pieces_takeColours_81 : decode prog_8_method_9_code 81 = .ok (.iload_n 3, 1) := by decide +kernel
theorem d_Pieces_takeColours_82 : decode prog_8_method_9_code 82 = .ok (.iconst 2, 1) := by decide +kernel
theorem d_Pieces_takeColours_83 : decode prog_8_method_9_code 83 = .ok (.iadd, 1) := by decide +kernel
theorem d_Pieces_takeColours_84 : decode prog_8_method_9_code 84 = .ok (.iaload, 1) := by decide +kernel
theorem d_Pieces_takeColours_85 : decode prog_8_method_9_code 85 = .ok (.invokevirtual 132, 3) := by decide +kernel
theorem d_Pieces_takeColours_88 : decode prog_8_method_9_code 88 = .ok (.iinc 3 3, 3) := by decide +kernel
theorem d_Pieces_takeColours_91 : decode prog_8_method_9_code 91 = .ok (.goto (-51), 3) := by decide +kernel
theorem d_Pieces_takeColours_94 : decode prog_8_method_9_code 94 = .ok (.aload_n 0, 1) := by decide +kernel
theorem d_Pieces_takeColours_95 : decode prog_8_method_9_code 95 = .ok (.iconst 1, 1) := by decide +kernel
theorem d_Pieces_takeColours_96 : decode prog_8_method_9_code 96 = .ok (.putfield 31, 3) := by decide +kernel
theorem d_Pieces_takeColours_99 : decode prog_8_method_9_code 99 = .ok (.iconst 1, 1) := by decide +kernel
theorem d_Pieces_takeColours_100 : decode prog_8_method_9_code 100 = .ok (.ireturn, 1) := by decide +kernel
set_option maxRecDepth 100000 in
set_option maxHeartbeats 4000000 in
theorem c_Pieces_takeColours {l0 : Launch} (hl : l0.stackTraces = false) (n : Nat) (ids : List Nat) {t : Nat} (ht : mm_ok ids t 1 5) (a0 : Int32) (a1 : Int32) (σ : Mm) : kw_C l0 y_Pieces_takeColours (Cond.code y_Pieces_takeColours prog_8_method_9_code 4 (some .boolean) :: kw_Ts) rm_Pieces_takeColours kw_oi ids [] [.ref t, .int a0, .int a1] σ (F_Pieces_takeColours n t a0 a1 σ) := by
  refine kw_start (L0 := [some (.ref t), some (.int a0), some (.int a1), none]) hl (by decide +kernel) (Nat.le_of_ble_eq_true rfl) rfl (fun Γ ad C Ce => ?_)
  unfold F_Pieces_takeColours
  refine kw_iload_n C d_Pieces_takeColours_0 rfl ?_
  refine kw_iconst (v := 3) C d_Pieces_takeColours_1 (by decide) ?_
  refine kw_j (α := Unit) (pcj := 24) (Lj := fun x2 => [some (.ref t), some (.int a0), none, none]) (stj := fun x2 => []) (fun x2 σ3 => ?_) (fun k1 hk1 => ?_)
  · refine kw_aload_n C d_Pieces_takeColours_24 rfl ?_
    refine kw_getR C fi_Pieces_15 rfl rfl ht d_Pieces_takeColours_25 (fun o4 ho4 => ?_)
    refine kw_bipush (v := 8) C d_Pieces_takeColours_28 (by decide) ?_
    refine kw_iload_n C d_Pieces_takeColours_30 rfl ?_
    refine kw_callVi (cl' := 0) (sl' := 0) (As := [.int 8, .int a0]) C (c_Fault_refuse hl n ids ho4 8 a0 σ3) mi_Pieces_58 v_Fault_refuse ⟨_, _, rfl⟩ ho4 ⟨Nat.le_of_ble_eq_true rfl, Nat.le_of_ble_eq_true rfl⟩ (Nat.le_of_ble_eq_true rfl) ⟨Nat.le_of_ble_eq_true rfl, Nat.le_of_ble_eq_true rfl⟩ ⟨rfl, rfl⟩ rfl d_Pieces_takeColours_31 (fun x5 σ6 => ?_)
    exact kw_zret C Ce rfl (by simp) (fun _ _ => rfl) (Nat.le_of_ble_eq_true rfl) (Nat.le_of_ble_eq_true rfl) rfl d_Pieces_takeColours_34
  · refine kw_icmp_lt (tgt := 24) C d_Pieces_takeColours_2 (by decide) ?_ ?_
    · exact kw_wk (hk1 () σ) ⟨Or.inr rfl, Or.inr rfl, Or.inl rfl, Or.inl rfl, trivial⟩
    · refine kw_iload_n C d_Pieces_takeColours_5 rfl ?_
      refine kw_iconst (v := 3) C d_Pieces_takeColours_6 (by decide) ?_
      refine kw_irem C d_Pieces_takeColours_7 ?_
      refine kw_if_ne (tgt := 24) C d_Pieces_takeColours_8 (by decide) ?_ ?_
      · exact kw_wk (hk1 () σ) ⟨Or.inr rfl, Or.inr rfl, Or.inl rfl, Or.inl rfl, trivial⟩
      · refine kw_iload_n C d_Pieces_takeColours_11 rfl ?_
        refine kw_iconst (v := 3) C d_Pieces_takeColours_12 (by decide) ?_
        refine kw_idiv C d_Pieces_takeColours_13 ?_
        refine kw_aload_n C d_Pieces_takeColours_14 rfl ?_
        refine kw_getR C fi_Pieces_23 rfl rfl ht d_Pieces_takeColours_15 (fun o7 ho7 => ?_)
        refine kw_callVi (cl' := 0) (sl' := 0) (As := []) C (c_Picture_mostColours hl n ids ho7  σ) mi_Pieces_128 v_Picture_mostColours ⟨_, _, rfl⟩ ho7 ⟨Nat.le_of_ble_eq_true rfl, Nat.le_of_ble_eq_true rfl⟩ (Nat.le_of_ble_eq_true rfl) ⟨Nat.le_of_ble_eq_true rfl, Nat.le_of_ble_eq_true rfl⟩ ⟨rfl, rfl⟩ rfl d_Pieces_takeColours_18 (fun x8 σ9 => ?_)
        refine kw_icmp_le (tgt := 35) C d_Pieces_takeColours_21 (by decide) ?_ ?_
        · refine kw_iload_n C d_Pieces_takeColours_35 rfl ?_
          refine kw_bipush (v := 8) C d_Pieces_takeColours_36 (by decide) ?_
          refine kw_iadd C d_Pieces_takeColours_38 ?_
          refine kw_leti (fun x10 => ?_)
          refine kw_istore_n (L' := [some (.ref t), some (.int a0), some (.int a1), some (.int x10)]) C d_Pieces_takeColours_39 (by decide) rfl ?_
          refine kw_wk (kw_l (α := Int32) (pc := 40) (Lj := fun x12 => [some (.ref t), some (.int a0), some (.int a1), some (.int x12)]) (stj := fun x12 => []) (fun k11 hk11 x12 σ13 => ?_) n x10 σ9) ⟨Or.inr rfl, Or.inr rfl, Or.inr rfl, Or.inr rfl, trivial⟩
          refine kw_iload_n C d_Pieces_takeColours_40 rfl ?_
          refine kw_iload_n C d_Pieces_takeColours_41 rfl ?_
          refine kw_bipush (v := 8) C d_Pieces_takeColours_42 (by decide) ?_
          refine kw_iadd C d_Pieces_takeColours_44 ?_
          refine kw_iload_n C d_Pieces_takeColours_45 rfl ?_
          refine kw_iadd C d_Pieces_takeColours_46 ?_
          refine kw_icmp_ge (tgt := 94) C d_Pieces_takeColours_47 (by decide) ?_ ?_
          · refine kw_aload_n C d_Pieces_takeColours_94 rfl ?_
            refine kw_iconst (v := 1) C d_Pieces_takeColours_95 (by decide) ?_
            refine kw_putZ C fi_Pieces_31 rfl ht d_Pieces_takeColours_96 (fun σ14 => ?_)
            refine kw_iconst (v := 1) C d_Pieces_takeColours_99 (by decide) ?_
            exact kw_zret C Ce rfl (by simp) (fun _ _ => rfl) (Nat.le_of_ble_eq_true rfl) (Nat.le_of_ble_eq_true rfl) rfl d_Pieces_takeColours_100
          · refine kw_aload_n C d_Pieces_takeColours_50 rfl ?_
            refine kw_getR C fi_Pieces_23 rfl rfl ht d_Pieces_takeColours_51 (fun o15 ho15 => ?_)
            refine kw_aload_n C d_Pieces_takeColours_54 rfl ?_
            refine kw_getR C fi_Pieces_9 rfl rfl ht d_Pieces_takeColours_55 (fun o16 ho16 => ?_)
            refine kw_getR C fi_Pieces_55 rfl rfl ho16 d_Pieces_takeColours_58 (fun o17 ho17 => ?_)
            refine kw_iload_n C d_Pieces_takeColours_61 rfl ?_
            refine kw_iald C (Or.inl ⟨ho17.1, ho17.2.1⟩) d_Pieces_takeColours_62 ?_
            refine kw_aload_n C d_Pieces_takeColours_63 rfl ?_
            refine kw_getR C fi_Pieces_9 rfl rfl ht d_Pieces_takeColours_64 (fun o18 ho18 => ?_)
            refine kw_getR C fi_Pieces_55 rfl rfl ho18 d_Pieces_takeColours_67 (fun o19 ho19 => ?_)
            refine kw_iload_n C d_Pieces_takeColours_70 rfl ?_
            refine kw_iconst (v := 1) C d_Pieces_takeColours_71 (by decide) ?_
            refine kw_iadd C d_Pieces_takeColours_72 ?_
            refine kw_leti (fun x20 => ?_)
            refine kw_iald C (Or.inl ⟨ho19.1, ho19.2.1⟩) d_Pieces_takeColours_73 ?_
            refine kw_aload_n C d_Pieces_takeColours_74 rfl ?_
            refine kw_getR C fi_Pieces_9 rfl rfl ht d_Pieces_takeColours_75 (fun o21 ho21 => ?_)
            refine kw_getR C fi_Pieces_55 rfl rfl ho21 d_Pieces_takeColours_78 (fun o22 ho22 => ?_)
            refine kw_iload_n C d_Pieces_takeColours_81 rfl ?_
            refine kw_iconst (v := 2) C d_Pieces_takeColours_82 (by decide) ?_
            refine kw_iadd C d_Pieces_takeColours_83 ?_
            refine kw_leti (fun x23 => ?_)
            refine kw_iald C (Or.inl ⟨ho22.1, ho22.2.1⟩) d_Pieces_takeColours_84 ?_
            refine kw_callVv (cl' := 0) (sl' := 0) (As := [.int (gB σ13 o17 x12.toNatClampNeg), .int (gB σ13 o19 x20.toNatClampNeg), .int (gB σ13 o22 x23.toNatClampNeg)]) C (c_Picture_addColour hl n ids ho15 (gB σ13 o17 x12.toNatClampNeg) (gB σ13 o19 x20.toNatClampNeg) (gB σ13 o22 x23.toNatClampNeg) σ13) mi_Pieces_132 v_Picture_addColour ⟨_, _, rfl⟩ ho15 ⟨Nat.le_of_ble_eq_true rfl, Nat.le_of_ble_eq_true rfl⟩ (Nat.le_of_ble_eq_true rfl) ⟨Nat.le_of_ble_eq_true rfl, Nat.le_of_ble_eq_true rfl⟩ ⟨rfl, rfl⟩ rfl d_Pieces_takeColours_85 (fun σ24 => ?_)
            refine kw_iincL (L2 := fun x25 => [some (.ref t), some (.int a0), some (.int a1), some (.int x25)]) C d_Pieces_takeColours_88 (by decide) rfl (fun _ => rfl) (fun x25 => ?_)
            refine kw_goto (tgt := 40) C d_Pieces_takeColours_91 (by decide) ?_
            exact kw_wk (hk11 x25 σ24) ⟨Or.inr rfl, Or.inr rfl, Or.inr rfl, Or.inr rfl, trivial⟩
        · exact kw_wk (hk1 () σ9) ⟨Or.inr rfl, Or.inr rfl, Or.inl rfl, Or.inl rfl, trivial⟩
/-! Picture_addThin -/
def rm_Picture_addThin : Room := { frames := 0, cells := 0, slots := 0, locals := 0 }
def F_Picture_addThin (n : Nat) (t : Nat) (a0 : Int32) (σ : Mm) : Option (Mm) :=
kf_j (α := Unit) (fun x2 σ3 =>
some σ3) fun k1 =>
if 256 ≤ (gS σ (64 * t + 7)) then (
k1 () σ) else (
Option.bind (gR σ (64 * t + 10)) fun o4 =>
kf_in (gS σ (64 * t + 7)) (mm_kd o4).2.2 <| kf_let (pB σ o4 (gS σ (64 * t + 7)).toNatClampNeg a0) fun σ5 =>
kf_let (pS σ5 (64 * t + 7) ((gS σ5 (64 * t + 7)) + 1)) fun σ6 =>
k1 () σ6)
theorem d_Picture_addThin_0 : decode prog_7_method_15_code 0 = .ok (.aload_n 0, 1) := by decide +kernel
theorem d_Picture_addThin_1 : decode prog_7_method_15_code 1 = .ok (.getfield 57, 3) := by decide +kernel
theorem d_Picture_addThin_4 : decode prog_7_method_15_code 4 = .ok (.sipush 256, 3) := by decide +kernel
theorem d_Picture_addThin_7 : decode prog_7_method_15_code 7 = .ok (.if_icmp .ge 23, 3) := by decide +kernel
theorem d_Picture_addThin_10 : decode prog_7_method_15_code 10 = .ok (.aload_n 0, 1) := by decide +kernel
theorem d_Picture_addThin_11 : decode prog_7_method_15_code 11 = .ok (.getfield 16, 3) := by decide +kernel
theorem d_Picture_addThin_14 : decode prog_7_method_15_code 14 = .ok (.aload_n 0, 1) := by decide +kernel
theorem d_Picture_addThin_15 : decode prog_7_method_15_code 15 = .ok (.getfield 57, 3) := by decide +kernel
theorem d_Picture_addThin_18 : decode prog_7_method_15_code 18 = .ok (.iload_n 1, 1) := by decide +kernel
theorem d_Picture_addThin_19 : decode prog_7_method_15_code 19 = .ok (.iastore, 1) := by decide +kernel
theorem d_Picture_addThin_20 : decode prog_7_method_15_code 20 = .ok (.aload_n 0, 1) := by decide +kernel
theorem d_Picture_addThin_21 : decode prog_7_method_15_code 21 = .ok (.dup, 1) := by decide +kernel
theorem d_Picture_addThin_22 : decode prog_7_method_15_code 22 = .ok (.getfield 57, 3) := by decide +kernel
theorem d_Picture_addThin_25 : decode prog_7_method_15_code 25 = .ok (.iconst 1, 1) := by decide +kernel
theorem d_Picture_addThin_26 : decode prog_7_method_15_code 26 = .ok (.iadd, 1) := by decide +kernel
theorem d_Picture_addThin_27 : decode prog_7_method_15_code 27 = .ok (.putfield 57, 3) := by decide +kernel
theorem d_Picture_addThin_30 : decode prog_7_method_15_code 30 = .ok (.return_, 1) := by decide +kernel
set_option maxRecDepth 100000 in
set_option maxHeartbeats 4000000 in
theorem c_Picture_addThin {l0 : Launch} (hl : l0.stackTraces = false) (n : Nat) (ids : List Nat) {t : Nat} (ht : mm_ok ids t 1 10) (a0 : Int32) (σ : Mm) : kw_C l0 y_Picture_addThin (Cond.code y_Picture_addThin prog_7_method_15_code 2 none :: kw_Ts) rm_Picture_addThin kw_ov ids [] [.ref t, .int a0] σ (F_Picture_addThin n t a0 σ) := by
  refine kw_start (L0 := [some (.ref t), some (.int a0)]) hl (by decide +kernel) (Nat.le_of_ble_eq_true rfl) rfl (fun Γ ad C Ce => ?_)
  unfold F_Picture_addThin
  refine kw_aload_n C d_Picture_addThin_0 rfl ?_
  refine kw_getI C fi_Picture_57 (Or.inl rfl) ht d_Picture_addThin_1 ?_
  refine kw_sipush (v := 256) C d_Picture_addThin_4 (by decide) ?_
  refine kw_j (α := Unit) (pcj := 30) (Lj := fun x2 => [none, none]) (stj := fun x2 => []) (fun x2 σ3 => ?_) (fun k1 hk1 => ?_)
  · exact kw_vret C Ce rfl (by simp) (fun _ _ => rfl) (Nat.le_of_ble_eq_true rfl) (Nat.le_of_ble_eq_true rfl) rfl d_Picture_addThin_30
  · refine kw_icmp_ge (tgt := 30) C d_Picture_addThin_7 (by decide) ?_ ?_
    · exact kw_wk (hk1 () σ) ⟨Or.inl rfl, Or.inl rfl, trivial⟩
    · refine kw_aload_n C d_Picture_addThin_10 rfl ?_
      refine kw_getR C fi_Picture_16 rfl rfl ht d_Picture_addThin_11 (fun o4 ho4 => ?_)
      refine kw_aload_n C d_Picture_addThin_14 rfl ?_
      refine kw_getI C fi_Picture_57 (Or.inl rfl) ht d_Picture_addThin_15 ?_
      refine kw_iload_n C d_Picture_addThin_18 rfl ?_
      refine kw_iast C ho4 d_Picture_addThin_19 (fun σ5 => ?_)
      refine kw_aload_n C d_Picture_addThin_20 rfl ?_
      refine kw_dup C d_Picture_addThin_21 rfl ?_
      refine kw_getI C fi_Picture_57 (Or.inl rfl) ht d_Picture_addThin_22 ?_
      refine kw_iconst (v := 1) C d_Picture_addThin_25 (by decide) ?_
      refine kw_iadd C d_Picture_addThin_26 ?_
      refine kw_putI C fi_Picture_57 rfl ht d_Picture_addThin_27 (fun σ6 => ?_)
      exact kw_wk (hk1 () σ6) ⟨Or.inl rfl, Or.inl rfl, trivial⟩
/-! Pieces_takeThins -/
def rm_Pieces_takeThins : Room := { frames := 1, cells := 0, slots := 0, locals := 22 }
def F_Pieces_takeThins (n : Nat) (t : Nat) (a0 : Int32) (a1 : Int32) (σ : Mm) : Option (Int32 × Mm) :=
kf_z 1 <| kf_let (pS σ (64 * t + 6) 1) fun σ1 =>
kf_let (a0 + 8 : Int32) fun x2 =>
Option.bind (gR σ1 (64 * t + 3)) fun o3 =>
if (gS σ1 (64 * o3 + 2)) = 3 then (
kf_j (α := Unit) (fun x25 σ26 =>
Option.bind (gR σ26 (64 * t + 1)) fun o27 =>
kf_c2 (F_Fault_refuse n o27 8 a0 σ26) fun x28 σ29 =>
kf_z x28 (some (x28, σ29))) fun k24 =>
if a1 < 1 then (
k24 () σ1) else (
Option.bind (gR σ1 (64 * t + 3)) fun o30 =>
if a1 ≤ (gS σ1 (64 * o30 + 6)) then (
kf_l (α := Int32) n (fun k31 x32 σ33 =>
if a1 ≤ x32 then (
kf_z 1 (some (1, σ33))) else (
Option.bind (gR σ33 (64 * t + 3)) fun o34 =>
Option.bind (gR σ33 (64 * t + 0)) fun o35 =>
Option.bind (gR σ33 (64 * o35 + 0)) fun o36 =>
kf_let (x2 + x32 : Int32) fun x37 =>
kf_in x37 (mm_kd o36).2.2 <|
Option.bind (F_Picture_addThin n o34 (gB σ33 o36 x37.toNatClampNeg) σ33) fun σ38 =>
kf_let (x32 + Int32.ofInt 1) fun x39 =>
k31 x39 σ38)) 0 σ1) else (
k24 () σ1))) else (
Option.bind (gR σ1 (64 * t + 3)) fun o4 =>
if a1 = ((2 : Int32) * (gS σ1 (64 * o4 + 5))) then (
kf_l (α := Int32) n (fun k5 x6 σ7 =>
if (x2 + a1) ≤ x6 then (
kf_z 1 (some (1, σ7))) else (
Option.bind (gR σ7 (64 * t + 0)) fun o8 =>
kf_c2 (F_Tape_pair n o8 x6 σ7) fun x9 σ10 =>
Option.bind (gR σ10 (64 * t + 3)) fun o11 =>
if x9 < ((1 : Int32) <<< ((gS σ10 (64 * o11 + 3)) &&& 31)) then (
Option.bind (gR σ10 (64 * t + 3)) fun o12 =>
Option.bind (gR σ10 (64 * t + 0)) fun o13 =>
kf_c2 (F_Tape_pair n o13 x6 σ10) fun x14 σ15 =>
Option.bind (F_Picture_addThin n o12 x14 σ15) fun σ16 =>
kf_let (x6 + Int32.ofInt 2) fun x17 =>
k5 x17 σ16) else (
Option.bind (gR σ10 (64 * t + 1)) fun o18 =>
kf_c2 (F_Fault_refuse n o18 10 x6 σ10) fun x19 σ20 =>
kf_z x19 (some (x19, σ20))))) x2 σ1) else (
Option.bind (gR σ1 (64 * t + 1)) fun o21 =>
kf_c2 (F_Fault_refuse n o21 8 a0 σ1) fun x22 σ23 =>
kf_z x22 (some (x22, σ23))))
theorem d_Pieces_takeThins_0 : decode prog_8_method_10_code 0 = .ok (.aload_n 0, 1) := by decide +kernel
theorem d_Pieces_takeThins_1 : decode prog_8_method_10_code 1 = .ok (.iconst 1, 1) := by decide +kernel
theorem d_Pieces_takeThins_2 : decode prog_8_method_10_code 2 = .ok (.putfield 35, 3) := by decide +kernel
theorem d_Pieces_takeThins_5 : decode prog_8_method_10_code 5 = .ok (.iload_n 1, 1) := by decide +kernel
theorem d_Pieces_takeThins_6 : decode prog_8_method_10_code 6 = .ok (.bipush 8, 2) := by decide +kernel
theorem d_Pieces_takeThins_8 : decode prog_8_method_10_code 8 = .ok (.iadd, 1) := by decide +kernel
theorem d_Pieces_takeThins_9 : decode prog_8_method_10_code 9 = .ok (.istore_n 3, 1) := by decide +kernel
theorem d_Pieces_takeThins_10 : decode prog_8_method_10_code 10 = .ok (.aload_n 0, 1) := by decide +kernel
theorem d_Pieces_takeThins_11 : decode prog_8_method_10_code 11 = .ok (.getfield 23, 3) := by decide +kernel
theorem d_Pieces_takeThins_14 : decode prog_8_method_10_code 14 = .ok (.getfield 100, 3) := by decide +kernel
theorem d_Pieces_takeThins_17 : decode prog_8_method_10_code 17 = .ok (.iconst 3, 1) := by decide +kernel
theorem d_Pieces_takeThins_18 : decode prog_8_method_10_code 18 = .ok (.if_icmp .ne 66, 3) := by decide +kernel
theorem d_Pieces_takeThins_21 : decode prog_8_method_10_code 21 = .ok (.iload_n 2, 1) := by decide +kernel
theorem d_Pieces_takeThins_22 : decode prog_8_method_10_code 22 = .ok (.iconst 1, 1) := by decide +kernel
theorem d_Pieces_takeThins_23 : decode prog_8_method_10_code 23 = .ok (.if_icmp .lt 14, 3) := by decide +kernel
theorem d_Pieces_takeThins_26 : decode prog_8_method_10_code 26 = .ok (.iload_n 2, 1) := by decide +kernel
theorem d_Pieces_takeThins_27 : decode prog_8_method_10_code 27 = .ok (.aload_n 0, 1) := by decide +kernel
theorem d_Pieces_takeThins_28 : decode prog_8_method_10_code 28 = .ok (.getfield 23, 3) := by decide +kernel
theorem d_Pieces_takeThins_31 : decode prog_8_method_10_code 31 = .ok (.getfield 136, 3) := by decide +kernel
theorem d_Pieces_takeThins_34 : decode prog_8_method_10_code 34 = .ok (.if_icmp .le 14, 3) := by decide +kernel
theorem d_Pieces_takeThins_37 : decode prog_8_method_10_code 37 = .ok (.aload_n 0, 1) := by decide +kernel
theorem d_Pieces_takeThins_38 : decode prog_8_method_10_code 38 = .ok (.getfield 15, 3) := by decide +kernel
theorem d_Pieces_takeThins_41 : decode prog_8_method_10_code 41 = .ok (.bipush 8, 2) := by decide +kernel
theorem d_Pieces_takeThins_43 : decode prog_8_method_10_code 43 = .ok (.iload_n 1, 1) := by decide +kernel
theorem d_Pieces_takeThins_44 : decode prog_8_method_10_code 44 = .ok (.invokevirtual 58, 3) := by decide +kernel
theorem d_Pieces_takeThins_47 : decode prog_8_method_10_code 47 = .ok (.ireturn, 1) := by decide +kernel
theorem d_Pieces_takeThins_48 : decode prog_8_method_10_code 48 = .ok (.iconst 0, 1) := by decide +kernel
theorem d_Pieces_takeThins_49 : decode prog_8_method_10_code 49 = .ok (.istore 4, 2) := by decide +kernel
theorem d_Pieces_takeThins_51 : decode prog_8_method_10_code 51 = .ok (.iload 4, 2) := by decide +kernel
theorem d_Pieces_takeThins_53 : decode prog_8_method_10_code 53 = .ok (.iload_n 2, 1) := by decide +kernel
theorem d_Pieces_takeThins_54 : decode prog_8_method_10_code 54 = .ok (.if_icmp .ge 28, 3) := by decide +kernel
theorem d_Pieces_takeThins_57 : decode prog_8_method_10_code 57 = .ok (.aload_n 0, 1) := by decide +kernel
theorem d_Pieces_takeThins_58 : decode prog_8_method_10_code 58 = .ok (.getfield 23, 3) := by decide +kernel
theorem d_Pieces_takeThins_61 : decode prog_8_method_10_code 61 = .ok (.aload_n 0, 1) := by decide +kernel
theorem d_Pieces_takeThins_62 : decode prog_8_method_10_code 62 = .ok (.getfield 9, 3) := by decide +kernel
theorem d_Pieces_takeThins_65 : decode prog_8_method_10_code 65 = .ok (.getfield 55, 3) := by decide +kernel
theorem d_Pieces_takeThins_68 : decode prog_8_method_10_code 68 = .ok (.iload_n 3, 1) := by decide +kernel
theorem d_Pieces_takeThins_69 : decode prog_8_method_10_code 69 = .ok (.iload 4, 2) := by decide +kernel
theorem d_Pieces_takeThins_71 : decode prog_8_method_10_code 71 = .ok (.iadd, 1) := by decide +kernel
theorem d_Pieces_takeThins_72 : decode prog_8_method_10_code 72 = .ok (.iaload, 1) := by decide +kernel
theorem d_Pieces_takeThins_73 : decode prog_8_method_10_code 73 = .ok (.invokevirtual 139, 3) := by decide +kernel
theorem d_Pieces_takeThins_76 : decode prog_8_method_10_code 76 = .ok (.iinc 4 1, 3) := by decide +kernel
theorem d_Pieces_takeThins_79 : decode prog_8_method_10_code 79 = .ok (.goto (-28), 3) := by decide +kernel
theorem d_Pieces_takeThins_82 : decode prog_8_method_10_code 82 = .ok (.iconst 1, 1) := by decide +kernel
theorem d_Pieces_takeThins_83 : decode prog_8_method_10_code 83 = .ok (.ireturn, 1) := by decide +kernel
theorem d_Pieces_takeThins_84 : decode prog_8_method_10_code 84 = .ok (.iload_n 2, 1) := by decide +kernel
theorem d_Pieces_takeThins_85 : decode prog_8_method_10_code 85 = .ok (.iconst 2, 1) := by decide +kernel
theorem d_Pieces_takeThins_86 : decode prog_8_method_10_code 86 = .ok (.aload_n 0, 1) := by decide +kernel
theorem d_Pieces_takeThins_87 : decode prog_8_method_10_code 87 = .ok (.getfield 23, 3) := by decide +kernel
theorem d_Pieces_takeThins_90 : decode prog_8_method_10_code 90 = .ok (.getfield 143, 3) := by decide +kernel
theorem d_Pieces_takeThins_93 : decode prog_8_method_10_code 93 = .ok (.imul, 1) := by decide +kernel
theorem d_Pieces_takeThins_94 : decode prog_8_method_10_code 94 = .ok (.if_icmp .eq 14, 3) := by decide +kernel
theorem d_Pieces_takeThins_97 : decode prog_8_method_10_code 97 = .ok (.aload_n 0, 1) := by decide +kernel
theorem d_Pieces_takeThins_98 : decode prog_8_method_10_code 98 = .ok (.getfield 15, 3) := by decide +kernel
theorem d_Pieces_takeThins_101 : decode prog_8_method_10_code 101 = .ok (.bipush 8, 2) := by decide +kernel
theorem d_Pieces_takeThins_103 : decode prog_8_method_10_code 103 = .ok (.iload_n 1, 1) := by decide +kernel
theorem d_Pieces_takeThins_104 : decode prog_8_method_10_code 104 = .ok (.invokevirtual 58, 3) := by decide +kernel
theorem d_Pieces_takeThins_107 : decode prog_8_method_10_code 107 = .ok (.ireturn, 1) := by decide +kernel
theorem d_Pieces_takeThins_108 : decode prog_8_method_10_code 108 = .ok (.iload_n 3, 1) := by decide +kernel
theorem d_Pieces_takeThins_109 : decode prog_8_method_10_code 109 = .ok (.istore 4, 2) := by decide +kernel
theorem d_Pieces_takeThins_111 : decode prog_8_method_10_code 111 = .ok (.iload 4, 2) := by decide +kernel
theorem d_Pieces_takeThins_113 : decode prog_8_method_10_code 113 = .ok (.iload_n 3, 1) := by decide +kernel
theorem d_Pieces_takeThins_114 : decode prog_8_method_10_code 114 = .ok (.iload_n 2, 1) := by decide +kernel
theorem d_Pieces_takeThins_115 : decode prog_8_method_10_code 115 = .ok (.iadd, 1) := by decide +kernel
theorem d_Pieces_takeThins_116 : decode prog_8_method_10_code 116 = .ok (.if_icmp .ge 58, 3) := by decide +kernel
theorem d_Pieces_takeThins_119 : decode prog_8_method_10_code 119 = .ok (.aload_n 0, 1) := by decide +kernel
theorem d_Pieces_takeThins_120 : decode prog_8_method_10_code 120 = .ok (.getfield 9, 3) := by decide +kernel
theorem d_Pieces_takeThins_123 : decode prog_8_method_10_code 123 = .ok (.iload 4, 2) := by decide +kernel
theorem d_Pieces_takeThins_125 : decode prog_8_method_10_code 125 = .ok (.invokevirtual 146, 3) := by decide +kernel
theorem d_Pieces_takeThins_128 : decode prog_8_method_10_code 128 = .ok (.iconst 1, 1) := by decide +kernel
theorem d_Pieces_takeThins_129 : decode prog_8_method_10_code 129 = .ok (.aload_n 0, 1) := by decide +kernel
theorem d_Pieces_takeThins_130 : decode prog_8_method_10_code 130 = .ok (.getfield 23, 3) := by decide +kernel
theorem d_Pieces_takeThins_133 : decode prog_8_method_10_code 133 = .ok (.getfield 149, 3) := by decide +kernel
theorem d_Pieces_takeThins_136 : decode prog_8_method_10_code 136 = .ok (.ishl, 1) := by decide +kernel
theorem d_Pieces_takeThins_137 : decode prog_8_method_10_code 137 = .ok (.if_icmp .lt 15, 3) := by decide +kernel
theorem d_Pieces_takeThins_140 : decode prog_8_method_10_code 140 = .ok (.aload_n 0, 1) := by decide +kernel
theorem d_Pieces_takeThins_141 : decode prog_8_method_10_code 141 = .ok (.getfield 15, 3) := by decide +kernel
theorem d_Pieces_takeThins_144 : decode prog_8_method_10_code 144 = .ok (.bipush 10, 2) := by decide +kernel
theorem d_Pieces_takeThins_146 : decode prog_8_method_10_code 146 = .ok (.iload 4, 2) := by decide +kernel
theorem d_Pieces_takeThins_148 : decode prog_8_method_10_code 148 = .ok (.invokevirtual 58, 3) := by decide +kernel
theorem d_Pieces_takeThins_151 : decode prog_8_method_10_code 151 = .ok (.ireturn, 1) := by decide +kernel
theorem d_Pieces_takeThins_152 : decode prog_8_method_10_code 152 = .ok (.aload_n 0, 1) := by decide +kernel
theorem d_Pieces_takeThins_153 : decode prog_8_method_10_code 153 = .ok (.getfield 23, 3) := by decide +kernel
theorem d_Pieces_takeThins_156 : decode prog_8_method_10_code 156 = .ok (.aload_n 0, 1) := by decide +kernel
theorem d_Pieces_takeThins_157 : decode prog_8_method_10_code 157 = .ok (.getfield 9, 3) := by decide +kernel
theorem d_Pieces_takeThins_160 : decode prog_8_method_10_code 160 = .ok (.iload 4, 2) := by decide +kernel
theorem d_Pieces_takeThins_162 : decode prog_8_method_10_code 162 = .ok (.invokevirtual 146, 3) := by decide +kernel
theorem d_Pieces_takeThins_165 : decode prog_8_method_10_code 165 = .ok (.invokevirtual 139, 3) := by decide +kernel
theorem d_Pieces_takeThins_168 : decode prog_8_method_10_code 168 = .ok (.iinc 4 2, 3) := by decide +kernel
theorem d_Pieces_takeThins_171 : decode prog_8_method_10_code 171 = .ok (.goto (-60), 3) := by decide +kernel
theorem d_Pieces_takeThins_174 : decode prog_8_method_10_code 174 = .ok (.iconst 1, 1) := by decide +kernel
theorem d_Pieces_takeThins_175 : decode prog_8_method_10_code 175 = .ok (.ireturn, 1) := by decide +kernel
set_option maxRecDepth 100000 in
set_option maxHeartbeats 4000000 in
theorem c_Pieces_takeThins {l0 : Launch} (hl : l0.stackTraces = false) (n : Nat) (ids : List Nat) {t : Nat} (ht : mm_ok ids t 1 5) (a0 : Int32) (a1 : Int32) (σ : Mm) : kw_C l0 y_Pieces_takeThins (Cond.code y_Pieces_takeThins prog_8_method_10_code 5 (some .boolean) :: kw_Ts) rm_Pieces_takeThins kw_oi ids [] [.ref t, .int a0, .int a1] σ (F_Pieces_takeThins n t a0 a1 σ) := by
  refine kw_start (L0 := [some (.ref t), some (.int a0), some (.int a1), none, none]) hl (by decide +kernel) (Nat.le_of_ble_eq_true rfl) rfl (fun Γ ad C Ce => ?_)
  unfold F_Pieces_takeThins
  refine kw_aload_n C d_Pieces_takeThins_0 rfl ?_
  refine kw_iconst (v := 1) C d_Pieces_takeThins_1 (by decide) ?_
  refine kw_putZ C fi_Pieces_35 rfl ht d_Pieces_takeThins_2 (fun σ1 => ?_)
  refine kw_iload_n C d_Pieces_takeThins_5 rfl ?_
  refine kw_bipush (v := 8) C d_Pieces_takeThins_6 (by decide) ?_
  refine kw_iadd C d_Pieces_takeThins_8 ?_
  refine kw_leti (fun x2 => ?_)
  refine kw_istore_n (L' := [some (.ref t), some (.int a0), some (.int a1), some (.int x2), none]) C d_Pieces_takeThins_9 (by decide) rfl ?_
  refine kw_aload_n C d_Pieces_takeThins_10 rfl ?_
  refine kw_getR C fi_Pieces_23 rfl rfl ht d_Pieces_takeThins_11 (fun o3 ho3 => ?_)
  refine kw_getI C fi_Pieces_100 (Or.inl rfl) ho3 d_Pieces_takeThins_14 ?_
  refine kw_iconst (v := 3) C d_Pieces_takeThins_17 (by decide) ?_
  refine kw_icmp_ne (tgt := 84) C d_Pieces_takeThins_18 (by decide) ?_ ?_
  · refine kw_iload_n C d_Pieces_takeThins_84 rfl ?_
    refine kw_iconst (v := 2) C d_Pieces_takeThins_85 (by decide) ?_
    refine kw_aload_n C d_Pieces_takeThins_86 rfl ?_
    refine kw_getR C fi_Pieces_23 rfl rfl ht d_Pieces_takeThins_87 (fun o4 ho4 => ?_)
    refine kw_getI C fi_Pieces_143 (Or.inl rfl) ho4 d_Pieces_takeThins_90 ?_
    refine kw_imul C d_Pieces_takeThins_93 ?_
    refine kw_icmp_eq (tgt := 108) C d_Pieces_takeThins_94 (by decide) ?_ ?_
    · refine kw_iload_n C d_Pieces_takeThins_108 rfl ?_
      refine kw_istore (L' := [some (.ref t), some (.int a0), some (.int a1), some (.int x2), some (.int x2)]) C d_Pieces_takeThins_109 (by decide) rfl ?_
      refine kw_wk (kw_l (α := Int32) (pc := 111) (Lj := fun x6 => [some (.ref t), none, some (.int a1), some (.int x2), some (.int x6)]) (stj := fun x6 => []) (fun k5 hk5 x6 σ7 => ?_) n x2 σ1) ⟨Or.inr rfl, Or.inl rfl, Or.inr rfl, Or.inr rfl, Or.inr rfl, trivial⟩
      refine kw_iload C d_Pieces_takeThins_111 rfl ?_
      refine kw_iload_n C d_Pieces_takeThins_113 rfl ?_
      refine kw_iload_n C d_Pieces_takeThins_114 rfl ?_
      refine kw_iadd C d_Pieces_takeThins_115 ?_
      refine kw_icmp_ge (tgt := 174) C d_Pieces_takeThins_116 (by decide) ?_ ?_
      · refine kw_iconst (v := 1) C d_Pieces_takeThins_174 (by decide) ?_
        exact kw_zret C Ce rfl (by simp) (fun _ _ => rfl) (Nat.le_of_ble_eq_true rfl) (Nat.le_of_ble_eq_true rfl) rfl d_Pieces_takeThins_175
      · refine kw_aload_n C d_Pieces_takeThins_119 rfl ?_
        refine kw_getR C fi_Pieces_9 rfl rfl ht d_Pieces_takeThins_120 (fun o8 ho8 => ?_)
        refine kw_iload C d_Pieces_takeThins_123 rfl ?_
        refine kw_callVi (cl' := 0) (sl' := 0) (As := [.int x6]) C (c_Tape_pair hl n ids ho8 x6 σ7) mi_Pieces_146 v_Tape_pair ⟨_, _, rfl⟩ ho8 ⟨Nat.le_of_ble_eq_true rfl, Nat.le_of_ble_eq_true rfl⟩ (Nat.le_of_ble_eq_true rfl) ⟨Nat.le_of_ble_eq_true rfl, Nat.le_of_ble_eq_true rfl⟩ ⟨rfl, rfl⟩ rfl d_Pieces_takeThins_125 (fun x9 σ10 => ?_)
        refine kw_iconst (v := 1) C d_Pieces_takeThins_128 (by decide) ?_
        refine kw_aload_n C d_Pieces_takeThins_129 rfl ?_
        refine kw_getR C fi_Pieces_23 rfl rfl ht d_Pieces_takeThins_130 (fun o11 ho11 => ?_)
        refine kw_getI C fi_Pieces_149 (Or.inl rfl) ho11 d_Pieces_takeThins_133 ?_
        refine kw_ishl C d_Pieces_takeThins_136 ?_
        refine kw_icmp_lt (tgt := 152) C d_Pieces_takeThins_137 (by decide) ?_ ?_
        · refine kw_aload_n C d_Pieces_takeThins_152 rfl ?_
          refine kw_getR C fi_Pieces_23 rfl rfl ht d_Pieces_takeThins_153 (fun o12 ho12 => ?_)
          refine kw_aload_n C d_Pieces_takeThins_156 rfl ?_
          refine kw_getR C fi_Pieces_9 rfl rfl ht d_Pieces_takeThins_157 (fun o13 ho13 => ?_)
          refine kw_iload C d_Pieces_takeThins_160 rfl ?_
          refine kw_callVi (cl' := 0) (sl' := 0) (As := [.int x6]) C (c_Tape_pair hl n ids ho13 x6 σ10) mi_Pieces_146 v_Tape_pair ⟨_, _, rfl⟩ ho13 ⟨Nat.le_of_ble_eq_true rfl, Nat.le_of_ble_eq_true rfl⟩ (Nat.le_of_ble_eq_true rfl) ⟨Nat.le_of_ble_eq_true rfl, Nat.le_of_ble_eq_true rfl⟩ ⟨rfl, rfl⟩ rfl d_Pieces_takeThins_162 (fun x14 σ15 => ?_)
          refine kw_callVv (cl' := 0) (sl' := 0) (As := [.int x14]) C (c_Picture_addThin hl n ids ho12 x14 σ15) mi_Pieces_139 v_Picture_addThin ⟨_, _, rfl⟩ ho12 ⟨Nat.le_of_ble_eq_true rfl, Nat.le_of_ble_eq_true rfl⟩ (Nat.le_of_ble_eq_true rfl) ⟨Nat.le_of_ble_eq_true rfl, Nat.le_of_ble_eq_true rfl⟩ ⟨rfl, rfl⟩ rfl d_Pieces_takeThins_165 (fun σ16 => ?_)
          refine kw_iincL (L2 := fun x17 => [some (.ref t), none, some (.int a1), some (.int x2), some (.int x17)]) C d_Pieces_takeThins_168 (by decide) rfl (fun _ => rfl) (fun x17 => ?_)
          refine kw_goto (tgt := 111) C d_Pieces_takeThins_171 (by decide) ?_
          exact kw_wk (hk5 x17 σ16) ⟨Or.inr rfl, Or.inl rfl, Or.inr rfl, Or.inr rfl, Or.inr rfl, trivial⟩
        · refine kw_aload_n C d_Pieces_takeThins_140 rfl ?_
          refine kw_getR C fi_Pieces_15 rfl rfl ht d_Pieces_takeThins_141 (fun o18 ho18 => ?_)
          refine kw_bipush (v := 10) C d_Pieces_takeThins_144 (by decide) ?_
          refine kw_iload C d_Pieces_takeThins_146 rfl ?_
          refine kw_callVi (cl' := 0) (sl' := 0) (As := [.int 10, .int x6]) C (c_Fault_refuse hl n ids ho18 10 x6 σ10) mi_Pieces_58 v_Fault_refuse ⟨_, _, rfl⟩ ho18 ⟨Nat.le_of_ble_eq_true rfl, Nat.le_of_ble_eq_true rfl⟩ (Nat.le_of_ble_eq_true rfl) ⟨Nat.le_of_ble_eq_true rfl, Nat.le_of_ble_eq_true rfl⟩ ⟨rfl, rfl⟩ rfl d_Pieces_takeThins_148 (fun x19 σ20 => ?_)
          exact kw_zret C Ce rfl (by simp) (fun _ _ => rfl) (Nat.le_of_ble_eq_true rfl) (Nat.le_of_ble_eq_true rfl) rfl d_Pieces_takeThins_151
    · refine kw_aload_n C d_Pieces_takeThins_97 rfl ?_
      refine kw_getR C fi_Pieces_15 rfl rfl ht d_Pieces_takeThins_98 (fun o21 ho21 => ?_)
      refine kw_bipush (v := 8) C d_Pieces_takeThins_101 (by decide) ?_
      refine kw_iload_n C d_Pieces_takeThins_103 rfl ?_
      refine kw_callVi (cl' := 0) (sl' := 0) (As := [.int 8, .int a0]) C (c_Fault_refuse hl n ids ho21 8 a0 σ1) mi_Pieces_58 v_Fault_refuse ⟨_, _, rfl⟩ ho21 ⟨Nat.le_of_ble_eq_true rfl, Nat.le_of_ble_eq_true rfl⟩ (Nat.le_of_ble_eq_true rfl) ⟨Nat.le_of_ble_eq_true rfl, Nat.le_of_ble_eq_true rfl⟩ ⟨rfl, rfl⟩ rfl d_Pieces_takeThins_104 (fun x22 σ23 => ?_)
      exact kw_zret C Ce rfl (by simp) (fun _ _ => rfl) (Nat.le_of_ble_eq_true rfl) (Nat.le_of_ble_eq_true rfl) rfl d_Pieces_takeThins_107
  · refine kw_iload_n C d_Pieces_takeThins_21 rfl ?_
    refine kw_iconst (v := 1) C d_Pieces_takeThins_22 (by decide) ?_
    refine kw_j (α := Unit) (pcj := 37) (Lj := fun x25 => [some (.ref t), some (.int a0), none, none, none]) (stj := fun x25 => []) (fun x25 σ26 => ?_) (fun k24 hk24 => ?_)
    · refine kw_aload_n C d_Pieces_takeThins_37 rfl ?_
      refine kw_getR C fi_Pieces_15 rfl rfl ht d_Pieces_takeThins_38 (fun o27 ho27 => ?_)
      refine kw_bipush (v := 8) C d_Pieces_takeThins_41 (by decide) ?_
      refine kw_iload_n C d_Pieces_takeThins_43 rfl ?_
      refine kw_callVi (cl' := 0) (sl' := 0) (As := [.int 8, .int a0]) C (c_Fault_refuse hl n ids ho27 8 a0 σ26) mi_Pieces_58 v_Fault_refuse ⟨_, _, rfl⟩ ho27 ⟨Nat.le_of_ble_eq_true rfl, Nat.le_of_ble_eq_true rfl⟩ (Nat.le_of_ble_eq_true rfl) ⟨Nat.le_of_ble_eq_true rfl, Nat.le_of_ble_eq_true rfl⟩ ⟨rfl, rfl⟩ rfl d_Pieces_takeThins_44 (fun x28 σ29 => ?_)
      exact kw_zret C Ce rfl (by simp) (fun _ _ => rfl) (Nat.le_of_ble_eq_true rfl) (Nat.le_of_ble_eq_true rfl) rfl d_Pieces_takeThins_47
    · refine kw_icmp_lt (tgt := 37) C d_Pieces_takeThins_23 (by decide) ?_ ?_
      · exact kw_wk (hk24 () σ1) ⟨Or.inr rfl, Or.inr rfl, Or.inl rfl, Or.inl rfl, Or.inl rfl, trivial⟩
      · refine kw_iload_n C d_Pieces_takeThins_26 rfl ?_
        refine kw_aload_n C d_Pieces_takeThins_27 rfl ?_
        refine kw_getR C fi_Pieces_23 rfl rfl ht d_Pieces_takeThins_28 (fun o30 ho30 => ?_)
        refine kw_getI C fi_Pieces_136 (Or.inl rfl) ho30 d_Pieces_takeThins_31 ?_
        refine kw_icmp_le (tgt := 48) C d_Pieces_takeThins_34 (by decide) ?_ ?_
        · refine kw_iconst (v := 0) C d_Pieces_takeThins_48 (by decide) ?_
          refine kw_istore (L' := [some (.ref t), some (.int a0), some (.int a1), some (.int x2), some (.int 0)]) C d_Pieces_takeThins_49 (by decide) rfl ?_
          refine kw_wk (kw_l (α := Int32) (pc := 51) (Lj := fun x32 => [some (.ref t), none, some (.int a1), some (.int x2), some (.int x32)]) (stj := fun x32 => []) (fun k31 hk31 x32 σ33 => ?_) n 0 σ1) ⟨Or.inr rfl, Or.inl rfl, Or.inr rfl, Or.inr rfl, Or.inr rfl, trivial⟩
          refine kw_iload C d_Pieces_takeThins_51 rfl ?_
          refine kw_iload_n C d_Pieces_takeThins_53 rfl ?_
          refine kw_icmp_ge (tgt := 82) C d_Pieces_takeThins_54 (by decide) ?_ ?_
          · refine kw_iconst (v := 1) C d_Pieces_takeThins_82 (by decide) ?_
            exact kw_zret C Ce rfl (by simp) (fun _ _ => rfl) (Nat.le_of_ble_eq_true rfl) (Nat.le_of_ble_eq_true rfl) rfl d_Pieces_takeThins_83
          · refine kw_aload_n C d_Pieces_takeThins_57 rfl ?_
            refine kw_getR C fi_Pieces_23 rfl rfl ht d_Pieces_takeThins_58 (fun o34 ho34 => ?_)
            refine kw_aload_n C d_Pieces_takeThins_61 rfl ?_
            refine kw_getR C fi_Pieces_9 rfl rfl ht d_Pieces_takeThins_62 (fun o35 ho35 => ?_)
            refine kw_getR C fi_Pieces_55 rfl rfl ho35 d_Pieces_takeThins_65 (fun o36 ho36 => ?_)
            refine kw_iload_n C d_Pieces_takeThins_68 rfl ?_
            refine kw_iload C d_Pieces_takeThins_69 rfl ?_
            refine kw_iadd C d_Pieces_takeThins_71 ?_
            refine kw_leti (fun x37 => ?_)
            refine kw_iald C (Or.inl ⟨ho36.1, ho36.2.1⟩) d_Pieces_takeThins_72 ?_
            refine kw_callVv (cl' := 0) (sl' := 0) (As := [.int (gB σ33 o36 x37.toNatClampNeg)]) C (c_Picture_addThin hl n ids ho34 (gB σ33 o36 x37.toNatClampNeg) σ33) mi_Pieces_139 v_Picture_addThin ⟨_, _, rfl⟩ ho34 ⟨Nat.le_of_ble_eq_true rfl, Nat.le_of_ble_eq_true rfl⟩ (Nat.le_of_ble_eq_true rfl) ⟨Nat.le_of_ble_eq_true rfl, Nat.le_of_ble_eq_true rfl⟩ ⟨rfl, rfl⟩ rfl d_Pieces_takeThins_73 (fun σ38 => ?_)
            refine kw_iincL (L2 := fun x39 => [some (.ref t), none, some (.int a1), some (.int x2), some (.int x39)]) C d_Pieces_takeThins_76 (by decide) rfl (fun _ => rfl) (fun x39 => ?_)
            refine kw_goto (tgt := 51) C d_Pieces_takeThins_79 (by decide) ?_
            exact kw_wk (hk31 x39 σ38) ⟨Or.inr rfl, Or.inl rfl, Or.inr rfl, Or.inr rfl, Or.inr rfl, trivial⟩
        · exact kw_wk (hk24 () σ1) ⟨Or.inr rfl, Or.inr rfl, Or.inl rfl, Or.inl rfl, Or.inl rfl, trivial⟩
/-! PackedBits_append -/
def rm_PackedBits_append : Room := { frames := 0, cells := 0, slots := 0, locals := 0 }
def F_PackedBits_append (n : Nat) (t : Nat) (a0 : Int32) (a1 : Int32) (σ : Mm) : Option (Mm) :=
kf_l (α := Int32) n (fun k1 x2 σ3 =>
kf_j (α := Unit) (fun x5 σ6 =>
kf_let (pS σ6 (64 * t + 4) (a0 + a1)) fun σ7 =>
some σ7) fun k4 =>
if a1 ≤ x2 then (
k4 () σ3) else (
if 65536 ≤ (gS σ3 (64 * t + 3)) then (
k4 () σ3) else (
Option.bind (gR σ3 (64 * t + 2)) fun o8 =>
kf_in (gS σ3 (64 * t + 3)) (mm_kd o8).2.2 <| kf_let (pB σ3 o8 (gS σ3 (64 * t + 3)).toNatClampNeg (a0 + x2)) fun σ9 =>
kf_let (pS σ9 (64 * t + 3) ((gS σ9 (64 * t + 3)) + 1)) fun σ10 =>
kf_let (x2 + Int32.ofInt 1) fun x11 =>
k1 x11 σ10))) 0 σ
theorem d_PackedBits_append_0 : decode prog_5_method_3_code 0 = .ok (.iconst 0, 1) := by decide +kernel
theorem d_PackedBits_append_1 : decode prog_5_method_3_code 1 = .ok (.istore_n 3, 1) := by decide +kernel
theorem d_PackedBits_append_2 : decode prog_5_method_3_code 2 = .ok (.iload_n 3, 1) := by decide +kernel
theorem d_PackedBits_append_3 : decode prog_5_method_3_code 3 = .ok (.iload_n 2, 1) := by decide +kernel
theorem d_PackedBits_append_4 : decode prog_5_method_3_code 4 = .ok (.if_icmp .ge 40, 3) := by decide +kernel
theorem d_PackedBits_append_7 : decode prog_5_method_3_code 7 = .ok (.aload_n 0, 1) := by decide +kernel
theorem d_PackedBits_append_8 : decode prog_5_method_3_code 8 = .ok (.getfield 26, 3) := by decide +kernel
theorem d_PackedBits_append_11 : decode prog_5_method_3_code 11 = .ok (.ldc 11, 2) := by decide +kernel
theorem d_PackedBits_append_13 : decode prog_5_method_3_code 13 = .ok (.if_icmp .ge 31, 3) := by decide +kernel
theorem d_PackedBits_append_16 : decode prog_5_method_3_code 16 = .ok (.aload_n 0, 1) := by decide +kernel
theorem d_PackedBits_append_17 : decode prog_5_method_3_code 17 = .ok (.getfield 12, 3) := by decide +kernel
theorem d_PackedBits_append_20 : decode prog_5_method_3_code 20 = .ok (.aload_n 0, 1) := by decide +kernel
theorem d_PackedBits_append_21 : decode prog_5_method_3_code 21 = .ok (.getfield 26, 3) := by decide +kernel
theorem d_PackedBits_append_24 : decode prog_5_method_3_code 24 = .ok (.iload_n 1, 1) := by decide +kernel
theorem d_PackedBits_append_25 : decode prog_5_method_3_code 25 = .ok (.iload_n 3, 1) := by decide +kernel
theorem d_PackedBits_append_26 : decode prog_5_method_3_code 26 = .ok (.iadd, 1) := by decide +kernel
theorem d_PackedBits_append_27 : decode prog_5_method_3_code 27 = .ok (.iastore, 1) := by decide +kernel
theorem d_PackedBits_append_28 : decode prog_5_method_3_code 28 = .ok (.aload_n 0, 1) := by decide +kernel
theorem d_PackedBits_append_29 : decode prog_5_method_3_code 29 = .ok (.dup, 1) := by decide +kernel
theorem d_PackedBits_append_30 : decode prog_5_method_3_code 30 = .ok (.getfield 26, 3) := by decide +kernel
theorem d_PackedBits_append_33 : decode prog_5_method_3_code 33 = .ok (.iconst 1, 1) := by decide +kernel
theorem d_PackedBits_append_34 : decode prog_5_method_3_code 34 = .ok (.iadd, 1) := by decide +kernel
theorem d_PackedBits_append_35 : decode prog_5_method_3_code 35 = .ok (.putfield 26, 3) := by decide +kernel
theorem d_PackedBits_append_38 : decode prog_5_method_3_code 38 = .ok (.iinc 3 1, 3) := by decide +kernel
theorem d_PackedBits_append_41 : decode prog_5_method_3_code 41 = .ok (.goto (-39), 3) := by decide +kernel
theorem d_PackedBits_append_44 : decode prog_5_method_3_code 44 = .ok (.aload_n 0, 1) := by decide +kernel
theorem d_PackedBits_append_45 : decode prog_5_method_3_code 45 = .ok (.iload_n 1, 1) := by decide +kernel
theorem d_PackedBits_append_46 : decode prog_5_method_3_code 46 = .ok (.iload_n 2, 1) := by decide +kernel
theorem d_PackedBits_append_47 : decode prog_5_method_3_code 47 = .ok (.iadd, 1) := by decide +kernel
theorem d_PackedBits_append_48 : decode prog_5_method_3_code 48 = .ok (.putfield 30, 3) := by decide +kernel
theorem d_PackedBits_append_51 : decode prog_5_method_3_code 51 = .ok (.return_, 1) := by decide +kernel
set_option maxRecDepth 100000 in
set_option maxHeartbeats 4000000 in
theorem c_PackedBits_append {l0 : Launch} (hl : l0.stackTraces = false) (n : Nat) (ids : List Nat) {t : Nat} (ht : mm_ok ids t 1 4) (a0 : Int32) (a1 : Int32) (σ : Mm) : kw_C l0 y_PackedBits_append (Cond.code y_PackedBits_append prog_5_method_3_code 4 none :: kw_Ts) rm_PackedBits_append kw_ov ids [] [.ref t, .int a0, .int a1] σ (F_PackedBits_append n t a0 a1 σ) := by
  refine kw_start (L0 := [some (.ref t), some (.int a0), some (.int a1), none]) hl (by decide +kernel) (Nat.le_of_ble_eq_true rfl) rfl (fun Γ ad C Ce => ?_)
  unfold F_PackedBits_append
  refine kw_iconst (v := 0) C d_PackedBits_append_0 (by decide) ?_
  refine kw_istore_n (L' := [some (.ref t), some (.int a0), some (.int a1), some (.int 0)]) C d_PackedBits_append_1 (by decide) rfl ?_
  refine kw_wk (kw_l (α := Int32) (pc := 2) (Lj := fun x2 => [some (.ref t), some (.int a0), some (.int a1), some (.int x2)]) (stj := fun x2 => []) (fun k1 hk1 x2 σ3 => ?_) n 0 σ) ⟨Or.inr rfl, Or.inr rfl, Or.inr rfl, Or.inr rfl, trivial⟩
  refine kw_iload_n C d_PackedBits_append_2 rfl ?_
  refine kw_iload_n C d_PackedBits_append_3 rfl ?_
  refine kw_j (α := Unit) (pcj := 44) (Lj := fun x5 => [some (.ref t), some (.int a0), some (.int a1), none]) (stj := fun x5 => []) (fun x5 σ6 => ?_) (fun k4 hk4 => ?_)
  · refine kw_aload_n C d_PackedBits_append_44 rfl ?_
    refine kw_iload_n C d_PackedBits_append_45 rfl ?_
    refine kw_iload_n C d_PackedBits_append_46 rfl ?_
    refine kw_iadd C d_PackedBits_append_47 ?_
    refine kw_putI C fi_PackedBits_30 rfl ht d_PackedBits_append_48 (fun σ7 => ?_)
    exact kw_vret C Ce rfl (by simp) (fun _ _ => rfl) (Nat.le_of_ble_eq_true rfl) (Nat.le_of_ble_eq_true rfl) rfl d_PackedBits_append_51
  · refine kw_icmp_ge (tgt := 44) C d_PackedBits_append_4 (by decide) ?_ ?_
    · exact kw_wk (hk4 () σ3) ⟨Or.inr rfl, Or.inr rfl, Or.inr rfl, Or.inl rfl, trivial⟩
    · refine kw_aload_n C d_PackedBits_append_7 rfl ?_
      refine kw_getI C fi_PackedBits_26 (Or.inl rfl) ht d_PackedBits_append_8 ?_
      refine kw_ldc (v := 65536) C d_PackedBits_append_11 k_PackedBits_11 ?_
      refine kw_icmp_ge (tgt := 44) C d_PackedBits_append_13 (by decide) ?_ ?_
      · exact kw_wk (hk4 () σ3) ⟨Or.inr rfl, Or.inr rfl, Or.inr rfl, Or.inl rfl, trivial⟩
      · refine kw_aload_n C d_PackedBits_append_16 rfl ?_
        refine kw_getR C fi_PackedBits_12 rfl rfl ht d_PackedBits_append_17 (fun o8 ho8 => ?_)
        refine kw_aload_n C d_PackedBits_append_20 rfl ?_
        refine kw_getI C fi_PackedBits_26 (Or.inl rfl) ht d_PackedBits_append_21 ?_
        refine kw_iload_n C d_PackedBits_append_24 rfl ?_
        refine kw_iload_n C d_PackedBits_append_25 rfl ?_
        refine kw_iadd C d_PackedBits_append_26 ?_
        refine kw_iast C ho8 d_PackedBits_append_27 (fun σ9 => ?_)
        refine kw_aload_n C d_PackedBits_append_28 rfl ?_
        refine kw_dup C d_PackedBits_append_29 rfl ?_
        refine kw_getI C fi_PackedBits_26 (Or.inl rfl) ht d_PackedBits_append_30 ?_
        refine kw_iconst (v := 1) C d_PackedBits_append_33 (by decide) ?_
        refine kw_iadd C d_PackedBits_append_34 ?_
        refine kw_putI C fi_PackedBits_26 rfl ht d_PackedBits_append_35 (fun σ10 => ?_)
        refine kw_iincL (L2 := fun x11 => [some (.ref t), some (.int a0), some (.int a1), some (.int x11)]) C d_PackedBits_append_38 (by decide) rfl (fun _ => rfl) (fun x11 => ?_)
        refine kw_goto (tgt := 2) C d_PackedBits_append_41 (by decide) ?_
        exact kw_wk (hk1 x11 σ10) ⟨Or.inr rfl, Or.inr rfl, Or.inr rfl, Or.inr rfl, trivial⟩
/-! Pieces_takeData -/
def rm_Pieces_takeData : Room := { frames := 1, cells := 0, slots := 0, locals := 23 }
def F_Pieces_takeData (n : Nat) (t : Nat) (a0 : Int32) (a1 : Int32) (σ : Mm) : Option (Int32 × Mm) :=
Option.bind (gR σ (64 * t + 2)) fun o1 =>
Option.bind (F_PackedBits_append n o1 (a0 + 8) a1 σ) fun σ2 =>
kf_z 1 <| kf_let (pS σ2 (64 * t + 7) 1) fun σ3 =>
kf_z 1 (some (1, σ3))
theorem d_Pieces_takeData_0 : decode prog_8_method_11_code 0 = .ok (.aload_n 0, 1) := by decide +kernel
theorem d_Pieces_takeData_1 : decode prog_8_method_11_code 1 = .ok (.getfield 19, 3) := by decide +kernel
theorem d_Pieces_takeData_4 : decode prog_8_method_11_code 4 = .ok (.iload_n 1, 1) := by decide +kernel
theorem d_Pieces_takeData_5 : decode prog_8_method_11_code 5 = .ok (.bipush 8, 2) := by decide +kernel
theorem d_Pieces_takeData_7 : decode prog_8_method_11_code 7 = .ok (.iadd, 1) := by decide +kernel
theorem d_Pieces_takeData_8 : decode prog_8_method_11_code 8 = .ok (.iload_n 2, 1) := by decide +kernel
theorem d_Pieces_takeData_9 : decode prog_8_method_11_code 9 = .ok (.invokevirtual 152, 3) := by decide +kernel
theorem d_Pieces_takeData_12 : decode prog_8_method_11_code 12 = .ok (.aload_n 0, 1) := by decide +kernel
theorem d_Pieces_takeData_13 : decode prog_8_method_11_code 13 = .ok (.iconst 1, 1) := by decide +kernel
theorem d_Pieces_takeData_14 : decode prog_8_method_11_code 14 = .ok (.putfield 38, 3) := by decide +kernel
theorem d_Pieces_takeData_17 : decode prog_8_method_11_code 17 = .ok (.iconst 1, 1) := by decide +kernel
theorem d_Pieces_takeData_18 : decode prog_8_method_11_code 18 = .ok (.ireturn, 1) := by decide +kernel
set_option maxRecDepth 100000 in
set_option maxHeartbeats 4000000 in
theorem c_Pieces_takeData {l0 : Launch} (hl : l0.stackTraces = false) (n : Nat) (ids : List Nat) {t : Nat} (ht : mm_ok ids t 1 5) (a0 : Int32) (a1 : Int32) (σ : Mm) : kw_C l0 y_Pieces_takeData (Cond.code y_Pieces_takeData prog_8_method_11_code 3 (some .boolean) :: kw_Ts) rm_Pieces_takeData kw_oi ids [] [.ref t, .int a0, .int a1] σ (F_Pieces_takeData n t a0 a1 σ) := by
  refine kw_start (L0 := [some (.ref t), some (.int a0), some (.int a1)]) hl (by decide +kernel) (Nat.le_of_ble_eq_true rfl) rfl (fun Γ ad C Ce => ?_)
  unfold F_Pieces_takeData
  refine kw_aload_n C d_Pieces_takeData_0 rfl ?_
  refine kw_getR C fi_Pieces_19 rfl rfl ht d_Pieces_takeData_1 (fun o1 ho1 => ?_)
  refine kw_iload_n C d_Pieces_takeData_4 rfl ?_
  refine kw_bipush (v := 8) C d_Pieces_takeData_5 (by decide) ?_
  refine kw_iadd C d_Pieces_takeData_7 ?_
  refine kw_iload_n C d_Pieces_takeData_8 rfl ?_
  refine kw_callVv (cl' := 0) (sl' := 0) (As := [.int (a0 + 8), .int a1]) C (c_PackedBits_append hl n ids ho1 (a0 + 8) a1 σ) mi_Pieces_152 v_PackedBits_append ⟨_, _, rfl⟩ ho1 ⟨Nat.le_of_ble_eq_true rfl, Nat.le_of_ble_eq_true rfl⟩ (Nat.le_of_ble_eq_true rfl) ⟨Nat.le_of_ble_eq_true rfl, Nat.le_of_ble_eq_true rfl⟩ ⟨rfl, rfl⟩ rfl d_Pieces_takeData_9 (fun σ2 => ?_)
  refine kw_aload_n C d_Pieces_takeData_12 rfl ?_
  refine kw_iconst (v := 1) C d_Pieces_takeData_13 (by decide) ?_
  refine kw_putZ C fi_Pieces_38 rfl ht d_Pieces_takeData_14 (fun σ3 => ?_)
  refine kw_iconst (v := 1) C d_Pieces_takeData_17 (by decide) ?_
  exact kw_zret C Ce rfl (by simp) (fun _ _ => rfl) (Nat.le_of_ble_eq_true rfl) (Nat.le_of_ble_eq_true rfl) rfl d_Pieces_takeData_18
