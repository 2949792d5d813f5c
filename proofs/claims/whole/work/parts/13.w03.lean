theorem gs_Unpacker_147 : Cond.fieldLink "PictureFile$Unpacker" 147 "PictureFile$Codes" "COPY_LENGTH" "[I" ∈ kw_Ts := (kw_m3 (i := 140) (by decide +kernel) (by decide +kernel))
theorem gs_Unpacker_150 : Cond.fieldLink "PictureFile$Unpacker" 150 "PictureFile$Codes" "COPY_LENGTH_BITS" "[I" ∈ kw_Ts := (kw_m3 (i := 142) (by decide +kernel) (by decide +kernel))
theorem mi_Unpacker_139 : kw_mi "PictureFile$Unpacker" 139 y_PackedBits_meaning prog_5_method_7_code 9 (some .int) 1 := ⟨(kw_m3 (i := 129) (by decide +kernel) (by decide +kernel)), w_PackedBits_meaning, in_PackedBits, by decide +kernel, by decide +kernel, by decide +kernel⟩
theorem v_PackedBits_meaning : Cond.instanceMethod y_PackedBits_meaning ∈ kw_Ts ∧ Cond.selects y_PackedBits_meaning.cls y_PackedBits_meaning y_PackedBits_meaning ∈ kw_Ts := ⟨(kw_m3 (i := 130) (by decide +kernel) (by decide +kernel)), (kw_m3 (i := 131) (by decide +kernel) (by decide +kernel))⟩
theorem gs_Unpacker_153 : Cond.fieldLink "PictureFile$Unpacker" 153 "PictureFile$Codes" "DISTANCE" "[I" ∈ kw_Ts := (kw_m3 (i := 144) (by decide +kernel) (by decide +kernel))
theorem gs_Unpacker_156 : Cond.fieldLink "PictureFile$Unpacker" 156 "PictureFile$Codes" "DISTANCE_BITS" "[I" ∈ kw_Ts := (kw_m3 (i := 146) (by decide +kernel) (by decide +kernel))
def y_Unpacker_takeCopy : MethodName := ⟨"PictureFile$Unpacker", "takeCopy", "(IILPictureFile$Codes;)Z"⟩
theorem w_Unpacker_takeCopy : Cond.code y_Unpacker_takeCopy prog_11_method_11_code 11 (some .boolean) ∈ kw_Ts := (kw_m3 (i := 139) (by decide +kernel) (by decide +kernel))
theorem k_Unpacker_69 : Cond.constant "PictureFile$Unpacker" 69 524288 ∈ kw_Ts := (kw_m3 (i := 107) (by decide +kernel) (by decide +kernel))
theorem mi_Unpacker_143 : kw_mi "PictureFile$Unpacker" 143 y_Unpacker_takeCopy prog_11_method_11_code 11 (some .boolean) 3 := ⟨(kw_m3 (i := 136) (by decide +kernel) (by decide +kernel)), w_Unpacker_takeCopy, in_Unpacker, by decide +kernel, by decide +kernel, by decide +kernel⟩
theorem v_Unpacker_takeCopy : Cond.instanceMethod y_Unpacker_takeCopy ∈ kw_Ts ∧ Cond.selects y_Unpacker_takeCopy.cls y_Unpacker_takeCopy y_Unpacker_takeCopy ∈ kw_Ts := ⟨(kw_m3 (i := 138) (by decide +kernel) (by decide +kernel)), (kw_sel (i := 14) (by decide +kernel) (by decide +kernel))⟩
def y_Unpacker_takeSigns : MethodName := ⟨"PictureFile$Unpacker", "takeSigns", "(LPictureFile$Codes;LPictureFile$Codes;)Z"⟩
theorem w_Unpacker_takeSigns : Cond.code y_Unpacker_takeSigns prog_11_method_10_code 7 (some .boolean) ∈ kw_Ts := (kw_m3 (i := 128) (by decide +kernel) (by decide +kernel))
theorem k_Codes_32 : Cond.constant "PictureFile$Codes" 32 32768 ∈ kw_Ts := (kw_m3 (i := 163) (by decide +kernel) (by decide +kernel))
def y_Codes_isFull : MethodName := ⟨"PictureFile$Codes", "isFull", "()Z"⟩
theorem w_Codes_isFull : Cond.code y_Codes_isFull prog_2_method_3_code 3 (some .boolean) ∈ kw_Ts := (kw_m3 (i := 162) (by decide +kernel) (by decide +kernel))
theorem fi_Unpacker_32 : kw_fi "PictureFile$Unpacker" 32 6 9 true := ⟨mmR_6, mmT_6, 13, rfl, rfl, by decide, mmI_6, mmY_6, mmN_6, rfl, (kw_m1 (i := 198) (by decide +kernel) (by decide +kernel))⟩
theorem mi_Unpacker_130 : kw_mi "PictureFile$Unpacker" 130 y_Arr_fill prog_23_method_103_code 4 none 2 := ⟨(kw_m3 (i := 156) (by decide +kernel) (by decide +kernel)), w_Arr_fill, in_Arr, by decide +kernel, by decide +kernel, by decide +kernel⟩
theorem fi_Unpacker_23 : kw_fi "PictureFile$Unpacker" 23 6 6 true := ⟨mmR_6, mmT_6, 13, rfl, rfl, by decide, mmI_6, mmY_6, mmN_6, rfl, (kw_m1 (i := 195) (by decide +kernel) (by decide +kernel))⟩
theorem gs_Unpacker_136 : Cond.fieldLink "PictureFile$Unpacker" 136 "PictureFile$Unpacker" "ORDER" "[I" ∈ kw_Ts := (kw_m3 (i := 157) (by decide +kernel) (by decide +kernel))
theorem in_Codes : Cond.initialized "PictureFile$Codes" ∈ kw_Ts := (kw_m1 (i := 8) (by decide +kernel) (by decide +kernel))
theorem mi_Unpacker_54 : kw_mi "PictureFile$Unpacker" 54 y_Codes_assign prog_2_method_2_code 6 none 3 := ⟨(kw_m1 (i := 182) (by decide +kernel) (by decide +kernel)), w_Codes_assign, in_Codes, by decide +kernel, by decide +kernel, by decide +kernel⟩
theorem v_Codes_assign : Cond.instanceMethod y_Codes_assign ∈ kw_Ts ∧ Cond.selects y_Codes_assign.cls y_Codes_assign y_Codes_assign ∈ kw_Ts := ⟨(kw_m1 (i := 183) (by decide +kernel) (by decide +kernel)), (kw_m1 (i := 184) (by decide +kernel) (by decide +kernel))⟩
theorem mi_Unpacker_121 : kw_mi "PictureFile$Unpacker" 121 y_Codes_isFull prog_2_method_3_code 3 (some .boolean) 0 := ⟨(kw_m3 (i := 159) (by decide +kernel) (by decide +kernel)), w_Codes_isFull, in_Codes, by decide +kernel, by decide +kernel, by decide +kernel⟩
theorem v_Codes_isFull : Cond.instanceMethod y_Codes_isFull ∈ kw_Ts ∧ Cond.selects y_Codes_isFull.cls y_Codes_isFull y_Codes_isFull ∈ kw_Ts := ⟨(kw_m3 (i := 160) (by decide +kernel) (by decide +kernel)), (kw_m3 (i := 161) (by decide +kernel) (by decide +kernel))⟩
def y_Unpacker_takeLengthCodes : MethodName := ⟨"PictureFile$Unpacker", "takeLengthCodes", "()Z"⟩
theorem w_Unpacker_takeLengthCodes : Cond.code y_Unpacker_takeLengthCodes prog_11_method_8_code 5 (some .boolean) ∈ kw_Ts := (kw_m3 (i := 155) (by decide +kernel) (by decide +kernel))
def y_Unpacker_takeLengths : MethodName := ⟨"PictureFile$Unpacker", "takeLengths", "(I)Z"⟩
theorem w_Unpacker_takeLengths : Cond.code y_Unpacker_takeLengths prog_11_method_9_code 10 (some .boolean) ∈ kw_Ts := (kw_m3 (i := 167) (by decide +kernel) (by decide +kernel))
def y_Codes_isOneBit : MethodName := ⟨"PictureFile$Codes", "isOneBit", "()Z"⟩
theorem w_Codes_isOneBit : Cond.code y_Codes_isOneBit prog_2_method_4_code 1 (some .boolean) ∈ kw_Ts := (kw_m3 (i := 171) (by decide +kernel) (by decide +kernel))
theorem mi_Unpacker_114 : kw_mi "PictureFile$Unpacker" 114 y_Unpacker_takeLengthCodes prog_11_method_8_code 5 (some .boolean) 0 := ⟨(kw_m3 (i := 152) (by decide +kernel) (by decide +kernel)), w_Unpacker_takeLengthCodes, in_Unpacker, by decide +kernel, by decide +kernel, by decide +kernel⟩
theorem v_Unpacker_takeLengthCodes : Cond.instanceMethod y_Unpacker_takeLengthCodes ∈ kw_Ts ∧ Cond.selects y_Unpacker_takeLengthCodes.cls y_Unpacker_takeLengthCodes y_Unpacker_takeLengthCodes ∈ kw_Ts := ⟨(kw_m3 (i := 154) (by decide +kernel) (by decide +kernel)), (kw_sel (i := 16) (by decide +kernel) (by decide +kernel))⟩
theorem mi_Unpacker_117 : kw_mi "PictureFile$Unpacker" 117 y_Unpacker_takeLengths prog_11_method_9_code 10 (some .boolean) 1 := ⟨(kw_m3 (i := 164) (by decide +kernel) (by decide +kernel)), w_Unpacker_takeLengths, in_Unpacker, by decide +kernel, by decide +kernel, by decide +kernel⟩
theorem v_Unpacker_takeLengths : Cond.instanceMethod y_Unpacker_takeLengths ∈ kw_Ts ∧ Cond.selects y_Unpacker_takeLengths.cls y_Unpacker_takeLengths y_Unpacker_takeLengths ∈ kw_Ts := ⟨(kw_m3 (i := 166) (by decide +kernel) (by decide +kernel)), (kw_sel (i := 17) (by decide +kernel) (by decide +kernel))⟩
theorem fi_Unpacker_26 : kw_fi "PictureFile$Unpacker" 26 6 7 true := ⟨mmR_6, mmT_6, 13, rfl, rfl, by decide, mmI_6, mmY_6, mmN_6, rfl, (kw_m1 (i := 196) (by decide +kernel) (by decide +kernel))⟩
theorem fi_Unpacker_29 : kw_fi "PictureFile$Unpacker" 29 6 8 true := ⟨mmR_6, mmT_6, 13, rfl, rfl, by decide, mmI_6, mmY_6, mmN_6, rfl, (kw_m1 (i := 197) (by decide +kernel) (by decide +kernel))⟩
theorem mi_Unpacker_124 : kw_mi "PictureFile$Unpacker" 124 y_Codes_isOneBit prog_2_method_4_code 1 (some .boolean) 0 := ⟨(kw_m3 (i := 168) (by decide +kernel) (by decide +kernel)), w_Codes_isOneBit, in_Codes, by decide +kernel, by decide +kernel, by decide +kernel⟩
theorem v_Codes_isOneBit : Cond.instanceMethod y_Codes_isOneBit ∈ kw_Ts ∧ Cond.selects y_Codes_isOneBit.cls y_Codes_isOneBit y_Codes_isOneBit ∈ kw_Ts := ⟨(kw_m3 (i := 169) (by decide +kernel) (by decide +kernel)), (kw_m3 (i := 170) (by decide +kernel) (by decide +kernel))⟩
theorem fi_Unpacker_127 : kw_fi "PictureFile$Unpacker" 127 7 3 false := ⟨mmR_7, mmT_7, 5, rfl, rfl, by decide, mmI_7, mmY_7, mmN_7, rfl, (kw_m1 (i := 168) (by decide +kernel) (by decide +kernel))⟩
def y_Unpacker_takeCodes : MethodName := ⟨"PictureFile$Unpacker", "takeCodes", "()Z"⟩
theorem w_Unpacker_takeCodes : Cond.code y_Unpacker_takeCodes prog_11_method_7_code 5 (some .boolean) ∈ kw_Ts := (kw_m3 (i := 151) (by decide +kernel) (by decide +kernel))
theorem mi_Unpacker_97 : kw_mi "PictureFile$Unpacker" 97 y_Unpacker_takePlain prog_11_method_5_code 6 (some .boolean) 0 := ⟨(kw_m3 (i := 112) (by decide +kernel) (by decide +kernel)), w_Unpacker_takePlain, in_Unpacker, by decide +kernel, by decide +kernel, by decide +kernel⟩
theorem v_Unpacker_takePlain : Cond.instanceMethod y_Unpacker_takePlain ∈ kw_Ts ∧ Cond.selects y_Unpacker_takePlain.cls y_Unpacker_takePlain y_Unpacker_takePlain ∈ kw_Ts := ⟨(kw_m3 (i := 114) (by decide +kernel) (by decide +kernel)), (kw_sel (i := 11) (by decide +kernel) (by decide +kernel))⟩
theorem fi_Unpacker_14 : kw_fi "PictureFile$Unpacker" 14 6 4 true := ⟨mmR_6, mmT_6, 13, rfl, rfl, by decide, mmI_6, mmY_6, mmN_6, rfl, (kw_m1 (i := 193) (by decide +kernel) (by decide +kernel))⟩
theorem fi_Unpacker_20 : kw_fi "PictureFile$Unpacker" 20 6 5 true := ⟨mmR_6, mmT_6, 13, rfl, rfl, by decide, mmI_6, mmY_6, mmN_6, rfl, (kw_m1 (i := 194) (by decide +kernel) (by decide +kernel))⟩
theorem mi_Unpacker_100 : kw_mi "PictureFile$Unpacker" 100 y_Unpacker_takeSigns prog_11_method_10_code 7 (some .boolean) 2 := ⟨(kw_m3 (i := 125) (by decide +kernel) (by decide +kernel)), w_Unpacker_takeSigns, in_Unpacker, by decide +kernel, by decide +kernel, by decide +kernel⟩
theorem v_Unpacker_takeSigns : Cond.instanceMethod y_Unpacker_takeSigns ∈ kw_Ts ∧ Cond.selects y_Unpacker_takeSigns.cls y_Unpacker_takeSigns y_Unpacker_takeSigns ∈ kw_Ts := ⟨(kw_m3 (i := 127) (by decide +kernel) (by decide +kernel)), (kw_sel (i := 13) (by decide +kernel) (by decide +kernel))⟩
theorem mi_Unpacker_104 : kw_mi "PictureFile$Unpacker" 104 y_Unpacker_takeCodes prog_11_method_7_code 5 (some .boolean) 0 := ⟨(kw_m3 (i := 148) (by decide +kernel) (by decide +kernel)), w_Unpacker_takeCodes, in_Unpacker, by decide +kernel, by decide +kernel, by decide +kernel⟩
theorem v_Unpacker_takeCodes : Cond.instanceMethod y_Unpacker_takeCodes ∈ kw_Ts ∧ Cond.selects y_Unpacker_takeCodes.cls y_Unpacker_takeCodes y_Unpacker_takeCodes ∈ kw_Ts := ⟨(kw_m3 (i := 150) (by decide +kernel) (by decide +kernel)), (kw_sel (i := 15) (by decide +kernel) (by decide +kernel))⟩
def y_Unpacker_takeBlock : MethodName := ⟨"PictureFile$Unpacker", "takeBlock", "()Z"⟩
theorem w_Unpacker_takeBlock : Cond.code y_Unpacker_takeBlock prog_11_method_4_code 3 (some .boolean) ∈ kw_Ts := (kw_m3 (i := 111) (by decide +kernel) (by decide +kernel))
theorem fi_Rows_10 : kw_fi "PictureFile$Rows" 10 3 0 true := ⟨mmR_3, mmT_3, 2, rfl, rfl, by decide, mmI_3, mmY_3, mmN_3, rfl, (kw_m1 (i := 83) (by decide +kernel) (by decide +kernel))⟩
theorem k_Rows_99 : Cond.constant "PictureFile$Rows" 99 65521 ∈ kw_Ts := (kw_m3 (i := 180) (by decide +kernel) (by decide +kernel))
def y_Rows_sumOf : MethodName := ⟨"PictureFile$Rows", "sumOf", "(I)I"⟩
theorem w_Rows_sumOf : Cond.code y_Rows_sumOf prog_9_method_11_code 5 (some .int) ∈ kw_Ts := (kw_m3 (i := 179) (by decide +kernel) (by decide +kernel))
def y_PackedBits_isAtEnd : MethodName := ⟨"PictureFile$PackedBits", "isAtEnd", "()Z"⟩
theorem w_PackedBits_isAtEnd : Cond.code y_PackedBits_isAtEnd prog_5_method_4_code 1 (some .boolean) ∈ kw_Ts := (kw_m3 (i := 184) (by decide +kernel) (by decide +kernel))
/-! Unpacker_takeCopy -/
def rm_Unpacker_takeCopy : Room := { frames := 2, cells := 0, slots := 0, locals := 51 }
def F_Unpacker_takeCopy (n : Nat) (t : Nat) (a0 : Int32) (a1 : Int32) (r2 : Nat) (σ : Mm) : Option (Int32 × Mm) :=
kf_let (a0 - 257 : Int32) fun x1 =>
if x1 < (Int32.ofNat (mm_kd 105).2.2) then (
Option.bind (gR σ (64 * t + 0)) fun o2 =>
kf_in x1 (mm_kd 106).2.2 <|
kf_c2 (F_PackedBits_number n o2 (gB σ 106 x1.toNatClampNeg) σ) fun x3 σ4 =>
if x3 = (-1) then (
kf_z 0 (some (0, σ4))) else (
kf_in x1 (mm_kd 105).2.2 <|
kf_let ((gB σ4 105 x1.toNatClampNeg) + x3 : Int32) fun x5 =>
Option.bind (gR σ4 (64 * t + 0)) fun o6 =>
kf_let (gS σ4 (64 * o6 + 5) : Int32) fun x7 =>
Option.bind (gR σ4 (64 * t + 0)) fun o8 =>
kf_c2 (F_PackedBits_meaning n o8 r2 σ4) fun x9 σ10 =>
if x9 = (-1) then (
kf_z 0 (some (0, σ10))) else (
if x9 < (Int32.ofNat (mm_kd 107).2.2) then (
Option.bind (gR σ10 (64 * t + 0)) fun o11 =>
kf_in x9 (mm_kd 108).2.2 <|
kf_c2 (F_PackedBits_number n o11 (gB σ10 108 x9.toNatClampNeg) σ10) fun x12 σ13 =>
if x12 = (-1) then (
kf_z 0 (some (0, σ13))) else (
kf_in x9 (mm_kd 107).2.2 <|
kf_let ((gB σ13 107 x9.toNatClampNeg) + x12 : Int32) fun x14 =>
kf_j (α := Unit) (fun x16 σ17 =>
Option.bind (gR σ17 (64 * t + 1)) fun o18 =>
Option.bind (gR σ17 (64 * t + 0)) fun o19 =>
kf_c2 (F_PackedBits_placeOf n o19 x7 σ17) fun x20 σ21 =>
kf_c2 (F_Fault_refuse n o18 25 x20 σ21) fun x22 σ23 =>
kf_z x22 (some (x22, σ23))) fun k15 =>
if (gS σ13 (64 * t + 11)) < x14 then (
k15 () σ13) else (
if x14 ≤ (gS σ13 (64 * t + 12)) then (
if x5 ≤ ((gS σ13 (64 * t + 10)) - (gS σ13 (64 * t + 11))) then (
kf_l (α := Int32) n (fun k24 x25 σ26 =>
if x25 ≤ 0 then (
kf_z 1 (some (1, σ26))) else (
Option.bind (gR σ26 (64 * t + 3)) fun o27 =>
Option.bind (gR σ26 (64 * t + 3)) fun o28 =>
kf_let ((gS σ26 (64 * t + 11)) - x14 : Int32) fun x29 =>
kf_in x29 (mm_kd o28).2.2 <|
kf_in (gS σ26 (64 * t + 11)) (mm_kd o27).2.2 <| kf_let (pB σ26 o27 (gS σ26 (64 * t + 11)).toNatClampNeg (gB σ26 o28 x29.toNatClampNeg)) fun σ30 =>
kf_let (pS σ30 (64 * t + 11) ((gS σ30 (64 * t + 11)) + 1)) fun σ31 =>
kf_let (x25 + Int32.ofInt (-1)) fun x32 =>
k24 x32 σ31)) x5 σ13) else (
Option.bind (gR σ13 (64 * t + 1)) fun o33 =>
Option.bind (gR σ13 (64 * t + 0)) fun o34 =>
kf_c2 (F_PackedBits_placeOf n o34 a1 σ13) fun x35 σ36 =>
kf_c2 (F_Fault_refuse n o33 26 x35 σ36) fun x37 σ38 =>
kf_z x37 (some (x37, σ38)))) else (
k15 () σ13)))) else (
Option.bind (gR σ10 (64 * t + 1)) fun o39 =>
Option.bind (gR σ10 (64 * t + 0)) fun o40 =>
kf_c2 (F_PackedBits_placeOf n o40 x7 σ10) fun x41 σ42 =>
kf_c2 (F_Fault_refuse n o39 25 x41 σ42) fun x43 σ44 =>
kf_z x43 (some (x43, σ44)))))) else (
Option.bind (gR σ (64 * t + 1)) fun o45 =>
Option.bind (gR σ (64 * t + 0)) fun o46 =>
kf_c2 (F_PackedBits_placeOf n o46 a1 σ) fun x47 σ48 =>
kf_c2 (F_Fault_refuse n o45 25 x47 σ48) fun x49 σ50 =>
kf_z x49 (some (x49, σ50)))
theorem d_Unpacker_takeCopy_0 : decode prog_11_method_11_code 0 = .ok (.iload_n 1, 1) := by decide +kernel
theorem d_Unpacker_takeCopy_1 : decode prog_11_method_11_code 1 = .ok (.sipush 257, 3) := by decide +kernel
theorem d_Unpacker_takeCopy_4 : decode prog_11_method_11_code 4 = .ok (.isub, 1) := by decide +kernel
theorem d_Unpacker_takeCopy_5 : decode prog_11_method_11_code 5 = .ok (.istore 4, 2) := by decide +kernel
theorem d_Unpacker_takeCopy_7 : decode prog_11_method_11_code 7 = .ok (.iload 4, 2) := by decide +kernel
theorem d_Unpacker_takeCopy_9 : decode prog_11_method_11_code 9 = .ok (.getstatic 147, 3) := by decide +kernel
theorem d_Unpacker_takeCopy_12 : decode prog_11_method_11_code 12 = .ok (.arraylength, 1) := by decide +kernel
theorem d_Unpacker_takeCopy_13 : decode prog_11_method_11_code 13 = .ok (.if_icmp .lt 21, 3) := by decide +kernel
theorem d_Unpacker_takeCopy_16 : decode prog_11_method_11_code 16 = .ok (.aload_n 0, 1) := by decide +kernel
theorem d_Unpacker_takeCopy_17 : decode prog_11_method_11_code 17 = .ok (.getfield 40, 3) := by decide +kernel
theorem d_Unpacker_takeCopy_20 : decode prog_11_method_11_code 20 = .ok (.bipush 25, 2) := by decide +kernel
theorem d_Unpacker_takeCopy_22 : decode prog_11_method_11_code 22 = .ok (.aload_n 0, 1) := by decide +kernel
theorem d_Unpacker_takeCopy_23 : decode prog_11_method_11_code 23 = .ok (.getfield 36, 3) := by decide +kernel
theorem d_Unpacker_takeCopy_26 : decode prog_11_method_11_code 26 = .ok (.iload_n 2, 1) := by decide +kernel
theorem d_Unpacker_takeCopy_27 : decode prog_11_method_11_code 27 = .ok (.invokevirtual 82, 3) := by decide +kernel
theorem d_Unpacker_takeCopy_30 : decode prog_11_method_11_code 30 = .ok (.invokevirtual 85, 3) := by decide +kernel
theorem d_Unpacker_takeCopy_33 : decode prog_11_method_11_code 33 = .ok (.ireturn, 1) := by decide +kernel
theorem d_Unpacker_takeCopy_34 : decode prog_11_method_11_code 34 = .ok (.aload_n 0, 1) := by decide +kernel
theorem d_Unpacker_takeCopy_35 : decode prog_11_method_11_code 35 = .ok (.getfield 36, 3) := by decide +kernel
theorem d_Unpacker_takeCopy_38 : decode prog_11_method_11_code 38 = .ok (.getstatic 150, 3) := by decide +kernel
theorem d_Unpacker_takeCopy_41 : decode prog_11_method_11_code 41 = .ok (.iload 4, 2) := by decide +kernel
theorem d_Unpacker_takeCopy_43 : decode prog_11_method_11_code 43 = .ok (.iaload, 1) := by decide +kernel
theorem d_Unpacker_takeCopy_44 : decode prog_11_method_11_code 44 = .ok (.invokevirtual 70, 3) := by decide +kernel
theorem d_Unpacker_takeCopy_47 : decode prog_11_method_11_code 47 = .ok (.istore 5, 2) := by decide +kernel
theorem d_Unpacker_takeCopy_49 : decode prog_11_method_11_code 49 = .ok (.iload 5, 2) := by decide +kernel
theorem d_Unpacker_takeCopy_51 : decode prog_11_method_11_code 51 = .ok (.iconst (-1), 1) := by decide +kernel
theorem d_Unpacker_takeCopy_52 : decode prog_11_method_11_code 52 = .ok (.if_icmp .ne 5, 3) := by decide +kernel
theorem d_Unpacker_takeCopy_55 : decode prog_11_method_11_code 55 = .ok (.iconst 0, 1) := by decide +kernel
theorem d_Unpacker_takeCopy_56 : decode prog_11_method_11_code 56 = .ok (.ireturn, 1) := by decide +kernel
theorem d_Unpacker_takeCopy_57 : decode prog_11_method_11_code 57 = .ok (.getstatic 147, 3) := by decide +kernel
theorem d_Unpacker_takeCopy_60 : decode prog_11_method_11_code 60 = .ok (.iload 4, 2) := by decide +kernel
theorem d_Unpacker_takeCopy_62 : decode prog_11_method_11_code 62 = .ok (.iaload, 1) := by decide +kernel
theorem d_Unpacker_takeCopy_63 : decode prog_11_method_11_code 63 = .ok (.iload 5, 2) := by decide +kernel
theorem d_Unpacker_takeCopy_65 : decode prog_11_method_11_code 65 = .ok (.iadd, 1) := by decide +kernel
theorem d_Unpacker_takeCopy_66 : decode prog_11_method_11_code 66 = .ok (.istore 6, 2) := by decide +kernel
theorem d_Unpacker_takeCopy_68 : decode prog_11_method_11_code 68 = .ok (.aload_n 0, 1) := by decide +kernel
theorem d_Unpacker_takeCopy_69 : decode prog_11_method_11_code 69 = .ok (.getfield 36, 3) := by decide +kernel
theorem d_Unpacker_takeCopy_72 : decode prog_11_method_11_code 72 = .ok (.getfield 94, 3) := by decide +kernel
theorem d_Unpacker_takeCopy_75 : decode prog_11_method_11_code 75 = .ok (.istore 7, 2) := by decide +kernel
theorem d_Unpacker_takeCopy_77 : decode prog_11_method_11_code 77 = .ok (.aload_n 0, 1) := by decide +kernel
theorem d_Unpacker_takeCopy_78 : decode prog_11_method_11_code 78 = .ok (.getfield 36, 3) := by decide +kernel
theorem d_Unpacker_takeCopy_81 : decode prog_11_method_11_code 81 = .ok (.aload_n 3, 1) := by decide +kernel
theorem d_Unpacker_takeCopy_82 : decode prog_11_method_11_code 82 = .ok (.invokevirtual 139, 3) := by decide +kernel
theorem d_Unpacker_takeCopy_85 : decode prog_11_method_11_code 85 = .ok (.istore 8, 2) := by decide +kernel
theorem d_Unpacker_takeCopy_87 : decode prog_11_method_11_code 87 = .ok (.iload 8, 2) := by decide +kernel
theorem d_Unpacker_takeCopy_89 : decode prog_11_method_11_code 89 = .ok (.iconst (-1), 1) := by decide +kernel
theorem d_Unpacker_takeCopy_90 : decode prog_11_method_11_code 90 = .ok (.if_icmp .ne 5, 3) := by decide +kernel
theorem d_Unpacker_takeCopy_93 : decode prog_11_method_11_code 93 = .ok (.iconst 0, 1) := by decide +kernel
theorem d_Unpacker_takeCopy_94 : decode prog_11_method_11_code 94 = .ok (.ireturn, 1) := by decide +kernel
theorem d_Unpacker_takeCopy_95 : decode prog_11_method_11_code 95 = .ok (.iload 8, 2) := by decide +kernel
theorem d_Unpacker_takeCopy_97 : decode prog_11_method_11_code 97 = .ok (.getstatic 153, 3) := by decide +kernel
theorem d_Unpacker_takeCopy_100 : decode prog_11_method_11_code 100 = .ok (.arraylength, 1) := by decide +kernel
theorem d_Unpacker_takeCopy_101 : decode prog_11_method_11_code 101 = .ok (.if_icmp .lt 22, 3) := by decide +kernel
theorem d_Unpacker_takeCopy_104 : decode prog_11_method_11_code 104 = .ok (.aload_n 0, 1) := by decide +kernel
theorem d_Unpacker_takeCopy_105 : decode prog_11_method_11_code 105 = .ok (.getfield 40, 3) := by decide +kernel
theorem d_Unpacker_takeCopy_108 : decode prog_11_method_11_code 108 = .ok (.bipush 25, 2) := by decide +kernel
theorem d_Unpacker_takeCopy_110 : decode prog_11_method_11_code 110 = .ok (.aload_n 0, 1) := by decide +kernel
theorem d_Unpacker_takeCopy_111 : decode prog_11_method_11_code 111 = .ok (.getfield 36, 3) := by decide +kernel
theorem d_Unpacker_takeCopy_114 : decode prog_11_method_11_code 114 = .ok (.iload 7, 2) := by decide +kernel
theorem d_Unpacker_takeCopy_116 : decode prog_11_method_11_code 116 = .ok (.invokevirtual 82, 3) := by decide +kernel
theorem d_Unpacker_takeCopy_119 : decode prog_11_method_11_code 119 = .ok (.invokevirtual 85, 3) := by decide +kernel
theorem d_Unpacker_takeCopy_122 : decode prog_11_method_11_code 122 = .ok (.ireturn, 1) := by decide +kernel
theorem d_Unpacker_takeCopy_123 : decode prog_11_method_11_code 123 = .ok (.aload_n 0, 1) := by decide +kernel
theorem d_Unpacker_takeCopy_124 : decode prog_11_method_11_code 124 = .ok (.getfield 36, 3) := by decide +kernel
theorem d_Unpacker_takeCopy_127 : decode prog_11_method_11_code 127 = .ok (.getstatic 156, 3) := by decide +kernel
theorem d_Unpacker_takeCopy_130 : decode prog_11_method_11_code 130 = .ok (.iload 8, 2) := by decide +kernel
theorem d_Unpacker_takeCopy_132 : decode prog_11_method_11_code 132 = .ok (.iaload, 1) := by decide +kernel
theorem d_Unpacker_takeCopy_133 : decode prog_11_method_11_code 133 = .ok (.invokevirtual 70, 3) := by decide +kernel
theorem d_Unpacker_takeCopy_136 : decode prog_11_method_11_code 136 = .ok (.istore 5, 2) := by decide +kernel
theorem d_Unpacker_takeCopy_138 : decode prog_11_method_11_code 138 = .ok (.iload 5, 2) := by decide +kernel
theorem d_Unpacker_takeCopy_140 : decode prog_11_method_11_code 140 = .ok (.iconst (-1), 1) := by decide +kernel
theorem d_Unpacker_takeCopy_141 : decode prog_11_method_11_code 141 = .ok (.if_icmp .ne 5, 3) := by decide +kernel
theorem d_Unpacker_takeCopy_144 : decode prog_11_method_11_code 144 = .ok (.iconst 0, 1) := by decide +kernel
theorem d_Unpacker_takeCopy_145 : decode prog_11_method_11_code 145 = .ok (.ireturn, 1) := by decide +kernel
theorem d_Unpacker_takeCopy_146 : decode prog_11_method_11_code 146 = .ok (.getstatic 153, 3) := by decide +kernel
theorem d_Unpacker_takeCopy_149 : decode prog_11_method_11_code 149 = .ok (.iload 8, 2) := by decide +kernel
theorem d_Unpacker_takeCopy_151 : decode prog_11_method_11_code 151 = .ok (.iaload, 1) := by decide +kernel
theorem d_Unpacker_takeCopy_152 : decode prog_11_method_11_code 152 = .ok (.iload 5, 2) := by decide +kernel
theorem d_Unpacker_takeCopy_154 : decode prog_11_method_11_code 154 = .ok (.iadd, 1) := by decide +kernel
theorem d_Unpacker_takeCopy_155 : decode prog_11_method_11_code 155 = .ok (.istore 9, 2) := by decide +kernel
theorem d_Unpacker_takeCopy_157 : decode prog_11_method_11_code 157 = .ok (.iload 9, 2) := by decide +kernel
theorem d_Unpacker_takeCopy_159 : decode prog_11_method_11_code 159 = .ok (.aload_n 0, 1) := by decide +kernel
theorem d_Unpacker_takeCopy_160 : decode prog_11_method_11_code 160 = .ok (.getfield 62, 3) := by decide +kernel
theorem d_Unpacker_takeCopy_163 : decode prog_11_method_11_code 163 = .ok (.if_icmp .gt 12, 3) := by decide +kernel
theorem d_Unpacker_takeCopy_166 : decode prog_11_method_11_code 166 = .ok (.iload 9, 2) := by decide +kernel
theorem d_Unpacker_takeCopy_168 : decode prog_11_method_11_code 168 = .ok (.aload_n 0, 1) := by decide +kernel
theorem d_Unpacker_takeCopy_169 : decode prog_11_method_11_code 169 = .ok (.getfield 91, 3) := by decide +kernel
theorem d_Unpacker_takeCopy_172 : decode prog_11_method_11_code 172 = .ok (.if_icmp .le 22, 3) := by decide +kernel
theorem d_Unpacker_takeCopy_175 : decode prog_11_method_11_code 175 = .ok (.aload_n 0, 1) := by decide +kernel
theorem d_Unpacker_takeCopy_176 : decode prog_11_method_11_code 176 = .ok (.getfield 40, 3) := by decide +kernel
theorem d_Unpacker_takeCopy_179 : decode prog_11_method_11_code 179 = .ok (.bipush 25, 2) := by decide +kernel
theorem d_Unpacker_takeCopy_181 : decode prog_11_method_11_code 181 = .ok (.aload_n 0, 1) := by decide +kernel
theorem d_Unpacker_takeCopy_182 : decode prog_11_method_11_code 182 = .ok (.getfield 36, 3) := by decide +kernel
theorem d_Unpacker_takeCopy_185 : decode prog_11_method_11_code 185 = .ok (.iload 7, 2) := by decide +kernel
theorem d_Unpacker_takeCopy_187 : decode prog_11_method_11_code 187 = .ok (.invokevirtual 82, 3) := by decide +kernel
theorem d_Unpacker_takeCopy_190 : decode prog_11_method_11_code 190 = .ok (.invokevirtual 85, 3) := by decide +kernel
theorem d_Unpacker_takeCopy_193 : decode prog_11_method_11_code 193 = .ok (.ireturn, 1) := by decide +kernel
theorem d_Unpacker_takeCopy_194 : decode prog_11_method_11_code 194 = .ok (.iload 6, 2) := by decide +kernel
theorem d_Unpacker_takeCopy_196 : decode prog_11_method_11_code 196 = .ok (.aload_n 0, 1) := by decide +kernel
theorem d_Unpacker_takeCopy_197 : decode prog_11_method_11_code 197 = .ok (.getfield 58, 3) := by decide +kernel
theorem d_Unpacker_takeCopy_200 : decode prog_11_method_11_code 200 = .ok (.aload_n 0, 1) := by decide +kernel
theorem d_Unpacker_takeCopy_201 : decode prog_11_method_11_code 201 = .ok (.getfield 62, 3) := by decide +kernel
theorem d_Unpacker_takeCopy_204 : decode prog_11_method_11_code 204 = .ok (.isub, 1) := by decide +kernel
theorem d_Unpacker_takeCopy_205 : decode prog_11_method_11_code 205 = .ok (.if_icmp .le 21, 3) := by decide +kernel
theorem d_Unpacker_takeCopy_208 : decode prog_11_method_11_code 208 = .ok (.aload_n 0, 1) := by decide +kernel
theorem d_Unpacker_takeCopy_209 : decode prog_11_method_11_code 209 = .ok (.getfield 40, 3) := by decide +kernel
theorem d_Unpacker_takeCopy_212 : decode prog_11_method_11_code 212 = .ok (.bipush 26, 2) := by decide +kernel
theorem d_Unpacker_takeCopy_214 : decode prog_11_method_11_code 214 = .ok (.aload_n 0, 1) := by decide +kernel
theorem d_Unpacker_takeCopy_215 : decode prog_11_method_11_code 215 = .ok (.getfield 36, 3) := by decide +kernel
theorem d_Unpacker_takeCopy_218 : decode prog_11_method_11_code 218 = .ok (.iload_n 2, 1) := by decide +kernel
theorem d_Unpacker_takeCopy_219 : decode prog_11_method_11_code 219 = .ok (.invokevirtual 82, 3) := by decide +kernel
theorem d_Unpacker_takeCopy_222 : decode prog_11_method_11_code 222 = .ok (.invokevirtual 85, 3) := by decide +kernel
theorem d_Unpacker_takeCopy_225 : decode prog_11_method_11_code 225 = .ok (.ireturn, 1) := by decide +kernel
theorem d_Unpacker_takeCopy_226 : decode prog_11_method_11_code 226 = .ok (.iload 6, 2) := by decide +kernel
theorem d_Unpacker_takeCopy_228 : decode prog_11_method_11_code 228 = .ok (.istore 10, 2) := by decide +kernel
theorem d_Unpacker_takeCopy_230 : decode prog_11_method_11_code 230 = .ok (.iload 10, 2) := by decide +kernel
theorem d_Unpacker_takeCopy_232 : decode prog_11_method_11_code 232 = .ok (.ifCond .le 40, 3) := by decide +kernel
theorem d_Unpacker_takeCopy_235 : decode prog_11_method_11_code 235 = .ok (.aload_n 0, 1) := by decide +kernel
theorem d_Unpacker_takeCopy_236 : decode prog_11_method_11_code 236 = .ok (.getfield 53, 3) := by decide +kernel
theorem d_Unpacker_takeCopy_239 : decode prog_11_method_11_code 239 = .ok (.aload_n 0, 1) := by decide +kernel
theorem d_Unpacker_takeCopy_240 : decode prog_11_method_11_code 240 = .ok (.getfield 62, 3) := by decide +kernel
theorem d_Unpacker_takeCopy_243 : decode prog_11_method_11_code 243 = .ok (.aload_n 0, 1) := by decide +kernel
theorem d_Unpacker_takeCopy_244 : decode prog_11_method_11_code 244 = .ok (.getfield 53, 3) := by decide +kernel
theorem d_Unpacker_takeCopy_247 : decode prog_11_method_11_code 247 = .ok (.aload_n 0, 1) := by decide +kernel
theorem d_Unpacker_takeCopy_248 : decode prog_11_method_11_code 248 = .ok (.getfield 62, 3) := by decide +kernel
theorem d_Unpacker_takeCopy_251 : decode prog_11_method_11_code 251 = .ok (.iload 9, 2) := by decide +kernel
theorem d_Unpacker_takeCopy_253 : decode prog_11_method_11_code 253 = .ok (.isub, 1) := by decide +kernel
theorem d_Unpacker_takeCopy_254 : decode prog_11_method_11_code 254 = .ok (.iaload, 1) := by decide +kernel
theorem d_Unpacker_takeCopy_255 : decode prog_11_method_11_code 255 = .ok (.iastore, 1) := by decide +kernel
theorem d_Unpacker_takeCopy_256 : decode prog_11_method_11_code 256 = .ok (.aload_n 0, 1) := by decide +kernel
theorem d_Unpacker_takeCopy_257 : decode prog_11_method_11_code 257 = .ok (.dup, 1) := by decide +kernel
theorem d_Unpacker_takeCopy_258 : decode prog_11_method_11_code 258 = .ok (.getfield 62, 3) := by decide +kernel
theorem d_Unpacker_takeCopy_261 : decode prog_11_method_11_code 261 = .ok (.iconst 1, 1) := by decide +kernel
theorem d_Unpacker_takeCopy_262 : decode prog_11_method_11_code 262 = .ok (.iadd, 1) := by decide +kernel
theorem d_Unpacker_takeCopy_263 : decode prog_11_method_11_code 263 = .ok (.putfield 62, 3) := by decide +kernel
theorem d_Unpacker_takeCopy_266 : decode prog_11_method_11_code 266 = .ok (.iinc 10 (-1), 3) := by decide +kernel
theorem d_Unpacker_takeCopy_269 : decode prog_11_method_11_code 269 = .ok (.goto (-39), 3) := by decide +kernel
theorem d_Unpacker_takeCopy_272 : decode prog_11_method_11_code 272 = .ok (.iconst 1, 1) := by decide +kernel
theorem d_Unpacker_takeCopy_273 : decode prog_11_method_11_code 273 = .ok (.ireturn, 1) := by decide +kernel
set_option maxRecDepth 100000 in
set_option maxHeartbeats 4000000 in
theorem c_Unpacker_takeCopy {l0 : Launch} (hl : l0.stackTraces = false) (n : Nat) (ids : List Nat) {t : Nat} (ht : mm_ok ids t 1 6) {r2 : Nat} (hr2 : mm_ok ids r2 1 7) (a0 : Int32) (a1 : Int32) (σ : Mm) : kw_C l0 y_Unpacker_takeCopy (Cond.code y_Unpacker_takeCopy prog_11_method_11_code 11 (some .boolean) :: kw_Ts) rm_Unpacker_takeCopy kw_oi ids [] [.ref t, .int a0, .int a1, .ref r2] σ (F_Unpacker_takeCopy n t a0 a1 r2 σ) := by
  refine kw_start (L0 := [some (.ref t), some (.int a0), some (.int a1), some (.ref r2), none, none, none, none, none, none, none]) hl (by decide +kernel) (Nat.le_of_ble_eq_true rfl) rfl (fun Γ ad C Ce => ?_)
  unfold F_Unpacker_takeCopy
  refine kw_iload_n C d_Unpacker_takeCopy_0 rfl ?_
  refine kw_sipush (v := 257) C d_Unpacker_takeCopy_1 (by decide) ?_
  refine kw_isub C d_Unpacker_takeCopy_4 ?_
  refine kw_leti (fun x1 => ?_)
  refine kw_istore (L' := [some (.ref t), some (.int a0), some (.int a1), some (.ref r2), some (.int x1), none, none, none, none, none, none]) C d_Unpacker_takeCopy_5 (by decide) rfl ?_
  refine kw_iload C d_Unpacker_takeCopy_7 rfl ?_
  refine kw_gets C (Cn := "PictureFile$Codes") (n := "COPY_LENGTH") (dd := "[I") (o := 105) (List.mem_of_getElem? (i := 5) rfl) rfl gs_Unpacker_147 d_Unpacker_takeCopy_9 ?_
  refine kw_alen C (Or.inr rfl) d_Unpacker_takeCopy_12 ?_
  refine kw_icmp_lt (tgt := 34) C d_Unpacker_takeCopy_13 (by decide) ?_ ?_
  · refine kw_aload_n C d_Unpacker_takeCopy_34 rfl ?_
    refine kw_getR C fi_Unpacker_36 rfl rfl ht d_Unpacker_takeCopy_35 (fun o2 ho2 => ?_)
    refine kw_gets C (Cn := "PictureFile$Codes") (n := "COPY_LENGTH_BITS") (dd := "[I") (o := 106) (List.mem_of_getElem? (i := 6) rfl) rfl gs_Unpacker_150 d_Unpacker_takeCopy_38 ?_
    refine kw_iload C d_Unpacker_takeCopy_41 rfl ?_
    refine kw_iald C (Or.inr rfl) d_Unpacker_takeCopy_43 ?_
    refine kw_callVi (cl' := 0) (sl' := 0) (As := [.int (gB σ 106 x1.toNatClampNeg)]) C (c_PackedBits_number hl n ids ho2 (gB σ 106 x1.toNatClampNeg) σ) mi_Unpacker_70 v_PackedBits_number ⟨_, _, rfl⟩ ho2 ⟨Nat.le_of_ble_eq_true rfl, Nat.le_of_ble_eq_true rfl⟩ (Nat.le_of_ble_eq_true rfl) ⟨Nat.le_of_ble_eq_true rfl, Nat.le_of_ble_eq_true rfl⟩ ⟨rfl, rfl⟩ rfl d_Unpacker_takeCopy_44 (fun x3 σ4 => ?_)
    refine kw_istore (L' := [some (.ref t), some (.int a0), some (.int a1), some (.ref r2), some (.int x1), some (.int x3), none, none, none, none, none]) C d_Unpacker_takeCopy_47 (by decide) rfl ?_
    refine kw_iload C d_Unpacker_takeCopy_49 rfl ?_
    refine kw_iconst (v := -1) C d_Unpacker_takeCopy_51 (by decide) ?_
    refine kw_icmp_ne (tgt := 57) C d_Unpacker_takeCopy_52 (by decide) ?_ ?_
    · refine kw_gets C (Cn := "PictureFile$Codes") (n := "COPY_LENGTH") (dd := "[I") (o := 105) (List.mem_of_getElem? (i := 5) rfl) rfl gs_Unpacker_147 d_Unpacker_takeCopy_57 ?_
      refine kw_iload C d_Unpacker_takeCopy_60 rfl ?_
      refine kw_iald C (Or.inr rfl) d_Unpacker_takeCopy_62 ?_
      refine kw_iload C d_Unpacker_takeCopy_63 rfl ?_
      refine kw_iadd C d_Unpacker_takeCopy_65 ?_
      refine kw_leti (fun x5 => ?_)
      refine kw_istore (L' := [some (.ref t), some (.int a0), some (.int a1), some (.ref r2), some (.int x1), some (.int x3), some (.int x5), none, none, none, none]) C d_Unpacker_takeCopy_66 (by decide) rfl ?_
      refine kw_aload_n C d_Unpacker_takeCopy_68 rfl ?_
      refine kw_getR C fi_Unpacker_36 rfl rfl ht d_Unpacker_takeCopy_69 (fun o6 ho6 => ?_)
      refine kw_getI C fi_Unpacker_94 (Or.inl rfl) ho6 d_Unpacker_takeCopy_72 ?_
      refine kw_leti (fun x7 => ?_)
      refine kw_istore (L' := [some (.ref t), some (.int a0), some (.int a1), some (.ref r2), some (.int x1), some (.int x3), some (.int x5), some (.int x7), none, none, none]) C d_Unpacker_takeCopy_75 (by decide) rfl ?_
      refine kw_aload_n C d_Unpacker_takeCopy_77 rfl ?_
      refine kw_getR C fi_Unpacker_36 rfl rfl ht d_Unpacker_takeCopy_78 (fun o8 ho8 => ?_)
      refine kw_aload_n C d_Unpacker_takeCopy_81 rfl ?_
      refine kw_callVi (cl' := 0) (sl' := 0) (As := [.ref r2]) C (c_PackedBits_meaning hl n ids ho8 hr2  σ4) mi_Unpacker_139 v_PackedBits_meaning ⟨_, _, rfl⟩ ho8 ⟨Nat.le_of_ble_eq_true rfl, Nat.le_of_ble_eq_true rfl⟩ (Nat.le_of_ble_eq_true rfl) ⟨Nat.le_of_ble_eq_true rfl, Nat.le_of_ble_eq_true rfl⟩ ⟨rfl, rfl⟩ rfl d_Unpacker_takeCopy_82 (fun x9 σ10 => ?_)
      refine kw_istore (L' := [some (.ref t), some (.int a0), some (.int a1), some (.ref r2), some (.int x1), some (.int x3), some (.int x5), some (.int x7), some (.int x9), none, none]) C d_Unpacker_takeCopy_85 (by decide) rfl ?_
      refine kw_iload C d_Unpacker_takeCopy_87 rfl ?_
      refine kw_iconst (v := -1) C d_Unpacker_takeCopy_89 (by decide) ?_
      refine kw_icmp_ne (tgt := 95) C d_Unpacker_takeCopy_90 (by decide) ?_ ?_
      · refine kw_iload C d_Unpacker_takeCopy_95 rfl ?_
        refine kw_gets C (Cn := "PictureFile$Codes") (n := "DISTANCE") (dd := "[I") (o := 107) (List.mem_of_getElem? (i := 7) rfl) rfl gs_Unpacker_153 d_Unpacker_takeCopy_97 ?_
        refine kw_alen C (Or.inr rfl) d_Unpacker_takeCopy_100 ?_
        refine kw_icmp_lt (tgt := 123) C d_Unpacker_takeCopy_101 (by decide) ?_ ?_
        · refine kw_aload_n C d_Unpacker_takeCopy_123 rfl ?_
          refine kw_getR C fi_Unpacker_36 rfl rfl ht d_Unpacker_takeCopy_124 (fun o11 ho11 => ?_)
          refine kw_gets C (Cn := "PictureFile$Codes") (n := "DISTANCE_BITS") (dd := "[I") (o := 108) (List.mem_of_getElem? (i := 8) rfl) rfl gs_Unpacker_156 d_Unpacker_takeCopy_127 ?_
          refine kw_iload C d_Unpacker_takeCopy_130 rfl ?_
          refine kw_iald C (Or.inr rfl) d_Unpacker_takeCopy_132 ?_
          refine kw_callVi (cl' := 0) (sl' := 0) (As := [.int (gB σ10 108 x9.toNatClampNeg)]) C (c_PackedBits_number hl n ids ho11 (gB σ10 108 x9.toNatClampNeg) σ10) mi_Unpacker_70 v_PackedBits_number ⟨_, _, rfl⟩ ho11 ⟨Nat.le_of_ble_eq_true rfl, Nat.le_of_ble_eq_true rfl⟩ (Nat.le_of_ble_eq_true rfl) ⟨Nat.le_of_ble_eq_true rfl, Nat.le_of_ble_eq_true rfl⟩ ⟨rfl, rfl⟩ rfl d_Unpacker_takeCopy_133 (fun x12 σ13 => ?_)
          refine kw_istore (L' := [some (.ref t), some (.int a0), some (.int a1), some (.ref r2), some (.int x1), some (.int x12), some (.int x5), some (.int x7), some (.int x9), none, none]) C d_Unpacker_takeCopy_136 (by decide) rfl ?_
          refine kw_iload C d_Unpacker_takeCopy_138 rfl ?_
          refine kw_iconst (v := -1) C d_Unpacker_takeCopy_140 (by decide) ?_
          refine kw_icmp_ne (tgt := 146) C d_Unpacker_takeCopy_141 (by decide) ?_ ?_
          · refine kw_gets C (Cn := "PictureFile$Codes") (n := "DISTANCE") (dd := "[I") (o := 107) (List.mem_of_getElem? (i := 7) rfl) rfl gs_Unpacker_153 d_Unpacker_takeCopy_146 ?_
            refine kw_iload C d_Unpacker_takeCopy_149 rfl ?_
            refine kw_iald C (Or.inr rfl) d_Unpacker_takeCopy_151 ?_
            refine kw_iload C d_Unpacker_takeCopy_152 rfl ?_
            refine kw_iadd C d_Unpacker_takeCopy_154 ?_
            refine kw_leti (fun x14 => ?_)
            refine kw_istore (L' := [some (.ref t), some (.int a0), some (.int a1), some (.ref r2), some (.int x1), some (.int x12), some (.int x5), some (.int x7), some (.int x9), some (.int x14), none]) C d_Unpacker_takeCopy_155 (by decide) rfl ?_
            refine kw_iload C d_Unpacker_takeCopy_157 rfl ?_
            refine kw_aload_n C d_Unpacker_takeCopy_159 rfl ?_
            refine kw_getI C fi_Unpacker_62 (Or.inl rfl) ht d_Unpacker_takeCopy_160 ?_
            refine kw_j (α := Unit) (pcj := 175) (Lj := fun x16 => [some (.ref t), none, none, none, none, none, none, some (.int x7), none, none, none]) (stj := fun x16 => []) (fun x16 σ17 => ?_) (fun k15 hk15 => ?_)
            · refine kw_aload_n C d_Unpacker_takeCopy_175 rfl ?_
              refine kw_getR C fi_Unpacker_40 rfl rfl ht d_Unpacker_takeCopy_176 (fun o18 ho18 => ?_)
              refine kw_bipush (v := 25) C d_Unpacker_takeCopy_179 (by decide) ?_
              refine kw_aload_n C d_Unpacker_takeCopy_181 rfl ?_
              refine kw_getR C fi_Unpacker_36 rfl rfl ht d_Unpacker_takeCopy_182 (fun o19 ho19 => ?_)
              refine kw_iload C d_Unpacker_takeCopy_185 rfl ?_
              refine kw_callVi (cl' := 0) (sl' := 0) (As := [.int x7]) C (c_PackedBits_placeOf hl n ids ho19 x7 σ17) mi_Unpacker_82 v_PackedBits_placeOf ⟨_, _, rfl⟩ ho19 ⟨Nat.le_of_ble_eq_true rfl, Nat.le_of_ble_eq_true rfl⟩ (Nat.le_of_ble_eq_true rfl) ⟨Nat.le_of_ble_eq_true rfl, Nat.le_of_ble_eq_true rfl⟩ ⟨rfl, rfl⟩ rfl d_Unpacker_takeCopy_187 (fun x20 σ21 => ?_)
              refine kw_callVi (cl' := 0) (sl' := 0) (As := [.int 25, .int x20]) C (c_Fault_refuse hl n ids ho18 25 x20 σ21) mi_Unpacker_85 v_Fault_refuse ⟨_, _, rfl⟩ ho18 ⟨Nat.le_of_ble_eq_true rfl, Nat.le_of_ble_eq_true rfl⟩ (Nat.le_of_ble_eq_true rfl) ⟨Nat.le_of_ble_eq_true rfl, Nat.le_of_ble_eq_true rfl⟩ ⟨rfl, rfl⟩ rfl d_Unpacker_takeCopy_190 (fun x22 σ23 => ?_)
              exact kw_zret C Ce rfl (by simp) (fun _ _ => rfl) (Nat.le_of_ble_eq_true rfl) (Nat.le_of_ble_eq_true rfl) rfl d_Unpacker_takeCopy_193
            · refine kw_icmp_gt (tgt := 175) C d_Unpacker_takeCopy_163 (by decide) ?_ ?_
              · exact kw_wk (hk15 () σ13) ⟨Or.inr rfl, Or.inl rfl, Or.inl rfl, Or.inl rfl, Or.inl rfl, Or.inl rfl, Or.inl rfl, Or.inr rfl, Or.inl rfl, Or.inl rfl, Or.inl rfl, trivial⟩
              · refine kw_iload C d_Unpacker_takeCopy_166 rfl ?_
                refine kw_aload_n C d_Unpacker_takeCopy_168 rfl ?_
                refine kw_getI C fi_Unpacker_91 (Or.inl rfl) ht d_Unpacker_takeCopy_169 ?_
                refine kw_icmp_le (tgt := 194) C d_Unpacker_takeCopy_172 (by decide) ?_ ?_
                · refine kw_iload C d_Unpacker_takeCopy_194 rfl ?_
                  refine kw_aload_n C d_Unpacker_takeCopy_196 rfl ?_
                  refine kw_getI C fi_Unpacker_58 (Or.inl rfl) ht d_Unpacker_takeCopy_197 ?_
                  refine kw_aload_n C d_Unpacker_takeCopy_200 rfl ?_
                  refine kw_getI C fi_Unpacker_62 (Or.inl rfl) ht d_Unpacker_takeCopy_201 ?_
                  refine kw_isub C d_Unpacker_takeCopy_204 ?_
                  refine kw_icmp_le (tgt := 226) C d_Unpacker_takeCopy_205 (by decide) ?_ ?_
                  · refine kw_iload C d_Unpacker_takeCopy_226 rfl ?_
                    refine kw_istore (L' := [some (.ref t), some (.int a0), some (.int a1), some (.ref r2), some (.int x1), some (.int x12), some (.int x5), some (.int x7), some (.int x9), some (.int x14), some (.int x5)]) C d_Unpacker_takeCopy_228 (by decide) rfl ?_
                    refine kw_wk (kw_l (α := Int32) (pc := 230) (Lj := fun x25 => [some (.ref t), none, none, none, none, none, none, none, none, some (.int x14), some (.int x25)]) (stj := fun x25 => []) (fun k24 hk24 x25 σ26 => ?_) n x5 σ13) ⟨Or.inr rfl, Or.inl rfl, Or.inl rfl, Or.inl rfl, Or.inl rfl, Or.inl rfl, Or.inl rfl, Or.inl rfl, Or.inl rfl, Or.inr rfl, Or.inr rfl, trivial⟩
                    refine kw_iload C d_Unpacker_takeCopy_230 rfl ?_
                    refine kw_if_le (tgt := 272) C d_Unpacker_takeCopy_232 (by decide) ?_ ?_
                    · refine kw_iconst (v := 1) C d_Unpacker_takeCopy_272 (by decide) ?_
                      exact kw_zret C Ce rfl (by simp) (fun _ _ => rfl) (Nat.le_of_ble_eq_true rfl) (Nat.le_of_ble_eq_true rfl) rfl d_Unpacker_takeCopy_273
                    · refine kw_aload_n C d_Unpacker_takeCopy_235 rfl ?_
                      refine kw_getR C fi_Unpacker_53 rfl rfl ht d_Unpacker_takeCopy_236 (fun o27 ho27 => ?_)
                      refine kw_aload_n C d_Unpacker_takeCopy_239 rfl ?_
                      refine kw_getI C fi_Unpacker_62 (Or.inl rfl) ht d_Unpacker_takeCopy_240 ?_
                      refine kw_aload_n C d_Unpacker_takeCopy_243 rfl ?_
                      refine kw_getR C fi_Unpacker_53 rfl rfl ht d_Unpacker_takeCopy_244 (fun o28 ho28 => ?_)
                      refine kw_aload_n C d_Unpacker_takeCopy_247 rfl ?_
                      refine kw_getI C fi_Unpacker_62 (Or.inl rfl) ht d_Unpacker_takeCopy_248 ?_
                      refine kw_iload C d_Unpacker_takeCopy_251 rfl ?_
                      refine kw_isub C d_Unpacker_takeCopy_253 ?_
                      refine kw_leti (fun x29 => ?_)
                      refine kw_iald C (Or.inl ⟨ho28.1, ho28.2.1⟩) d_Unpacker_takeCopy_254 ?_
                      refine kw_iast C ho27 d_Unpacker_takeCopy_255 (fun σ30 => ?_)
                      refine kw_aload_n C d_Unpacker_takeCopy_256 rfl ?_
                      refine kw_dup C d_Unpacker_takeCopy_257 rfl ?_
                      refine kw_getI C fi_Unpacker_62 (Or.inl rfl) ht d_Unpacker_takeCopy_258 ?_
                      refine kw_iconst (v := 1) C d_Unpacker_takeCopy_261 (by decide) ?_
                      refine kw_iadd C d_Unpacker_takeCopy_262 ?_
                      refine kw_putI C fi_Unpacker_62 rfl ht d_Unpacker_takeCopy_263 (fun σ31 => ?_)
                      refine kw_iincL (L2 := fun x32 => [some (.ref t), none, none, none, none, none, none, none, none, some (.int x14), some (.int x32)]) C d_Unpacker_takeCopy_266 (by decide) rfl (fun _ => rfl) (fun x32 => ?_)
                      refine kw_goto (tgt := 230) C d_Unpacker_takeCopy_269 (by decide) ?_
                      exact kw_wk (hk24 x32 σ31) ⟨Or.inr rfl, Or.inl rfl, Or.inl rfl, Or.inl rfl, Or.inl rfl, Or.inl rfl, Or.inl rfl, Or.inl rfl, Or.inl rfl, Or.inr rfl, Or.inr rfl, trivial⟩
                  · refine kw_aload_n C d_Unpacker_takeCopy_208 rfl ?_
                    refine kw_getR C fi_Unpacker_40 rfl rfl ht d_Unpacker_takeCopy_209 (fun o33 ho33 => ?_)
                    refine kw_bipush (v := 26) C d_Unpacker_takeCopy_212 (by decide) ?_
                    refine kw_aload_n C d_Unpacker_takeCopy_214 rfl ?_
                    refine kw_getR C fi_Unpacker_36 rfl rfl ht d_Unpacker_takeCopy_215 (fun o34 ho34 => ?_)
                    refine kw_iload_n C d_Unpacker_takeCopy_218 rfl ?_
                    refine kw_callVi (cl' := 0) (sl' := 0) (As := [.int a1]) C (c_PackedBits_placeOf hl n ids ho34 a1 σ13) mi_Unpacker_82 v_PackedBits_placeOf ⟨_, _, rfl⟩ ho34 ⟨Nat.le_of_ble_eq_true rfl, Nat.le_of_ble_eq_true rfl⟩ (Nat.le_of_ble_eq_true rfl) ⟨Nat.le_of_ble_eq_true rfl, Nat.le_of_ble_eq_true rfl⟩ ⟨rfl, rfl⟩ rfl d_Unpacker_takeCopy_219 (fun x35 σ36 => ?_)
                    refine kw_callVi (cl' := 0) (sl' := 0) (As := [.int 26, .int x35]) C (c_Fault_refuse hl n ids ho33 26 x35 σ36) mi_Unpacker_85 v_Fault_refuse ⟨_, _, rfl⟩ ho33 ⟨Nat.le_of_ble_eq_true rfl, Nat.le_of_ble_eq_true rfl⟩ (Nat.le_of_ble_eq_true rfl) ⟨Nat.le_of_ble_eq_true rfl, Nat.le_of_ble_eq_true rfl⟩ ⟨rfl, rfl⟩ rfl d_Unpacker_takeCopy_222 (fun x37 σ38 => ?_)
                    exact kw_zret C Ce rfl (by simp) (fun _ _ => rfl) (Nat.le_of_ble_eq_true rfl) (Nat.le_of_ble_eq_true rfl) rfl d_Unpacker_takeCopy_225
                · exact kw_wk (hk15 () σ13) ⟨Or.inr rfl, Or.inl rfl, Or.inl rfl, Or.inl rfl, Or.inl rfl, Or.inl rfl, Or.inl rfl, Or.inr rfl, Or.inl rfl, Or.inl rfl, Or.inl rfl, trivial⟩
          · refine kw_iconst (v := 0) C d_Unpacker_takeCopy_144 (by decide) ?_
            exact kw_zret C Ce rfl (by simp) (fun _ _ => rfl) (Nat.le_of_ble_eq_true rfl) (Nat.le_of_ble_eq_true rfl) rfl d_Unpacker_takeCopy_145
        · refine kw_aload_n C d_Unpacker_takeCopy_104 rfl ?_
          refine kw_getR C fi_Unpacker_40 rfl rfl ht d_Unpacker_takeCopy_105 (fun o39 ho39 => ?_)
          refine kw_bipush (v := 25) C d_Unpacker_takeCopy_108 (by decide) ?_
          refine kw_aload_n C d_Unpacker_takeCopy_110 rfl ?_
          refine kw_getR C fi_Unpacker_36 rfl rfl ht d_Unpacker_takeCopy_111 (fun o40 ho40 => ?_)
          refine kw_iload C d_Unpacker_takeCopy_114 rfl ?_
          refine kw_callVi (cl' := 0) (sl' := 0) (As := [.int x7]) C (c_PackedBits_placeOf hl n ids ho40 x7 σ10) mi_Unpacker_82 v_PackedBits_placeOf ⟨_, _, rfl⟩ ho40 ⟨Nat.le_of_ble_eq_true rfl, Nat.le_of_ble_eq_true rfl⟩ (Nat.le_of_ble_eq_true rfl) ⟨Nat.le_of_ble_eq_true rfl, Nat.le_of_ble_eq_true rfl⟩ ⟨rfl, rfl⟩ rfl d_Unpacker_takeCopy_116 (fun x41 σ42 => ?_)
          refine kw_callVi (cl' := 0) (sl' := 0) (As := [.int 25, .int x41]) C (c_Fault_refuse hl n ids ho39 25 x41 σ42) mi_Unpacker_85 v_Fault_refuse ⟨_, _, rfl⟩ ho39 ⟨Nat.le_of_ble_eq_true rfl, Nat.le_of_ble_eq_true rfl⟩ (Nat.le_of_ble_eq_true rfl) ⟨Nat.le_of_ble_eq_true rfl, Nat.le_of_ble_eq_true rfl⟩ ⟨rfl, rfl⟩ rfl d_Unpacker_takeCopy_119 (fun x43 σ44 => ?_)
          exact kw_zret C Ce rfl (by simp) (fun _ _ => rfl) (Nat.le_of_ble_eq_true rfl) (Nat.le_of_ble_eq_true rfl) rfl d_Unpacker_takeCopy_122
      · refine kw_iconst (v := 0) C d_Unpacker_takeCopy_93 (by decide) ?_
        exact kw_zret C Ce rfl (by simp) (fun _ _ => rfl) (Nat.le_of_ble_eq_true rfl) (Nat.le_of_ble_eq_true rfl) rfl d_Unpacker_takeCopy_94
    · refine kw_iconst (v := 0) C d_Unpacker_takeCopy_55 (by decide) ?_
      exact kw_zret C Ce rfl (by simp) (fun _ _ => rfl) (Nat.le_of_ble_eq_true rfl) (Nat.le_of_ble_eq_true rfl) rfl d_Unpacker_takeCopy_56
  · refine kw_aload_n C d_Unpacker_takeCopy_16 rfl ?_
    refine kw_getR C fi_Unpacker_40 rfl rfl ht d_Unpacker_takeCopy_17 (fun o45 ho45 => ?_)
    refine kw_bipush (v := 25) C d_Unpacker_takeCopy_20 (by decide) ?_
    refine kw_aload_n C d_Unpacker_takeCopy_22 rfl ?_
    refine kw_getR C fi_Unpacker_36 rfl rfl ht d_Unpacker_takeCopy_23 (fun o46 ho46 => ?_)
    refine kw_iload_n C d_Unpacker_takeCopy_26 rfl ?_
    refine kw_callVi (cl' := 0) (sl' := 0) (As := [.int a1]) C (c_PackedBits_placeOf hl n ids ho46 a1 σ) mi_Unpacker_82 v_PackedBits_placeOf ⟨_, _, rfl⟩ ho46 ⟨Nat.le_of_ble_eq_true rfl, Nat.le_of_ble_eq_true rfl⟩ (Nat.le_of_ble_eq_true rfl) ⟨Nat.le_of_ble_eq_true rfl, Nat.le_of_ble_eq_true rfl⟩ ⟨rfl, rfl⟩ rfl d_Unpacker_takeCopy_27 (fun x47 σ48 => ?_)
    refine kw_callVi (cl' := 0) (sl' := 0) (As := [.int 25, .int x47]) C (c_Fault_refuse hl n ids ho45 25 x47 σ48) mi_Unpacker_85 v_Fault_refuse ⟨_, _, rfl⟩ ho45 ⟨Nat.le_of_ble_eq_true rfl, Nat.le_of_ble_eq_true rfl⟩ (Nat.le_of_ble_eq_true rfl) ⟨Nat.le_of_ble_eq_true rfl, Nat.le_of_ble_eq_true rfl⟩ ⟨rfl, rfl⟩ rfl d_Unpacker_takeCopy_30 (fun x49 σ50 => ?_)
    exact kw_zret C Ce rfl (by simp) (fun _ _ => rfl) (Nat.le_of_ble_eq_true rfl) (Nat.le_of_ble_eq_true rfl) rfl d_Unpacker_takeCopy_33
/-! Unpacker_takeSigns -/
def rm_Unpacker_takeSigns : Room := { frames := 3, cells := 0, slots := 0, locals := 81 }
def F_Unpacker_takeSigns (n : Nat) (t : Nat) (r0 : Nat) (r1 : Nat) (σ : Mm) : Option (Int32 × Mm) :=
kf_l (α := Int32) n (fun k1 x2 σ3 =>
if 524288 ≤ x2 then (
Option.bind (gR σ3 (64 * t + 1)) fun o4 =>
Option.bind (gR σ3 (64 * t + 0)) fun o5 =>
kf_c2 (F_PackedBits_placeOf n o5 524288 σ3) fun x6 σ7 =>
kf_c2 (F_Fault_refuse n o4 20 x6 σ7) fun x8 σ9 =>
kf_z x8 (some (x8, σ9))) else (
Option.bind (gR σ3 (64 * t + 0)) fun o10 =>
kf_let (gS σ3 (64 * o10 + 5) : Int32) fun x11 =>
Option.bind (gR σ3 (64 * t + 0)) fun o12 =>
kf_c2 (F_PackedBits_meaning n o12 r0 σ3) fun x13 σ14 =>
if x13 = (-1) then (
kf_z 0 (some (0, σ14))) else (
if x13 = 256 then (
kf_z 1 (some (1, σ14))) else (
kf_j (α := Int32) (fun x16 σ17 =>
if x16 = 0 then (
kf_z 0 (some (0, σ17))) else (
kf_let (x2 + Int32.ofInt 1) fun x18 =>
k1 x18 σ17)) fun k15 =>
if 256 ≤ x13 then (
kf_c2 (F_Unpacker_takeCopy n t x13 x11 r1 σ14) fun x19 σ20 =>
k15 x19 σ20) else (
kf_c2 (F_Unpacker_putByte n t x13 x11 σ14) fun x21 σ22 =>
k15 x21 σ22))))) 0 σ
theorem d_Unpacker_takeSigns_0 : decode prog_11_method_10_code 0 = .ok (.iconst 0, 1) := by decide +kernel
theorem d_Unpacker_takeSigns_1 : decode prog_11_method_10_code 1 = .ok (.istore_n 3, 1) := by decide +kernel
theorem d_Unpacker_takeSigns_2 : decode prog_11_method_10_code 2 = .ok (.iload_n 3, 1) := by decide +kernel
theorem d_Unpacker_takeSigns_3 : decode prog_11_method_10_code 3 = .ok (.ldc 69, 2) := by decide +kernel
theorem d_Unpacker_takeSigns_5 : decode prog_11_method_10_code 5 = .ok (.if_icmp .ge 83, 3) := by decide +kernel
theorem d_Unpacker_takeSigns_8 : decode prog_11_method_10_code 8 = .ok (.aload_n 0, 1) := by decide +kernel
theorem d_Unpacker_takeSigns_9 : decode prog_11_method_10_code 9 = .ok (.getfield 36, 3) := by decide +kernel
theorem d_Unpacker_takeSigns_12 : decode prog_11_method_10_code 12 = .ok (.getfield 94, 3) := by decide +kernel
theorem d_Unpacker_takeSigns_15 : decode prog_11_method_10_code 15 = .ok (.istore 4, 2) := by decide +kernel
theorem d_Unpacker_takeSigns_17 : decode prog_11_method_10_code 17 = .ok (.aload_n 0, 1) := by decide +kernel
theorem d_Unpacker_takeSigns_18 : decode prog_11_method_10_code 18 = .ok (.getfield 36, 3) := by decide +kernel
theorem d_Unpacker_takeSigns_21 : decode prog_11_method_10_code 21 = .ok (.aload_n 1, 1) := by decide +kernel
theorem d_Unpacker_takeSigns_22 : decode prog_11_method_10_code 22 = .ok (.invokevirtual 139, 3) := by decide +kernel
theorem d_Unpacker_takeSigns_25 : decode prog_11_method_10_code 25 = .ok (.istore 5, 2) := by decide +kernel
theorem d_Unpacker_takeSigns_27 : decode prog_11_method_10_code 27 = .ok (.iload 5, 2) := by decide +kernel
theorem d_Unpacker_takeSigns_29 : decode prog_11_method_10_code 29 = .ok (.iconst (-1), 1) := by decide +kernel
theorem d_Unpacker_takeSigns_30 : decode prog_11_method_10_code 30 = .ok (.if_icmp .ne 5, 3) := by decide +kernel
theorem d_Unpacker_takeSigns_33 : decode prog_11_method_10_code 33 = .ok (.iconst 0, 1) := by decide +kernel
theorem d_Unpacker_takeSigns_34 : decode prog_11_method_10_code 34 = .ok (.ireturn, 1) := by decide +kernel
theorem d_Unpacker_takeSigns_35 : decode prog_11_method_10_code 35 = .ok (.iload 5, 2) := by decide +kernel
theorem d_Unpacker_takeSigns_37 : decode prog_11_method_10_code 37 = .ok (.sipush 256, 3) := by decide +kernel
theorem d_Unpacker_takeSigns_40 : decode prog_11_method_10_code 40 = .ok (.if_icmp .ne 5, 3) := by decide +kernel
theorem d_Unpacker_takeSigns_43 : decode prog_11_method_10_code 43 = .ok (.iconst 1, 1) := by decide +kernel
theorem d_Unpacker_takeSigns_44 : decode prog_11_method_10_code 44 = .ok (.ireturn, 1) := by decide +kernel
theorem d_Unpacker_takeSigns_45 : decode prog_11_method_10_code 45 = .ok (.iload 5, 2) := by decide +kernel
theorem d_Unpacker_takeSigns_47 : decode prog_11_method_10_code 47 = .ok (.sipush 256, 3) := by decide +kernel
theorem d_Unpacker_takeSigns_50 : decode prog_11_method_10_code 50 = .ok (.if_icmp .ge 14, 3) := by decide +kernel
theorem d_Unpacker_takeSigns_53 : decode prog_11_method_10_code 53 = .ok (.aload_n 0, 1) := by decide +kernel
theorem d_Unpacker_takeSigns_54 : decode prog_11_method_10_code 54 = .ok (.iload 5, 2) := by decide +kernel
theorem d_Unpacker_takeSigns_56 : decode prog_11_method_10_code 56 = .ok (.iload 4, 2) := by decide +kernel
theorem d_Unpacker_takeSigns_58 : decode prog_11_method_10_code 58 = .ok (.invokevirtual 111, 3) := by decide +kernel
theorem d_Unpacker_takeSigns_61 : decode prog_11_method_10_code 61 = .ok (.goto 12, 3) := by decide +kernel
theorem d_Unpacker_takeSigns_64 : decode prog_11_method_10_code 64 = .ok (.aload_n 0, 1) := by decide +kernel
theorem d_Unpacker_takeSigns_65 : decode prog_11_method_10_code 65 = .ok (.iload 5, 2) := by decide +kernel
theorem d_Unpacker_takeSigns_67 : decode prog_11_method_10_code 67 = .ok (.iload 4, 2) := by decide +kernel
theorem d_Unpacker_takeSigns_69 : decode prog_11_method_10_code 69 = .ok (.aload_n 2, 1) := by decide +kernel
theorem d_Unpacker_takeSigns_70 : decode prog_11_method_10_code 70 = .ok (.invokevirtual 143, 3) := by decide +kernel
theorem d_Unpacker_takeSigns_73 : decode prog_11_method_10_code 73 = .ok (.istore 6, 2) := by decide +kernel
theorem d_Unpacker_takeSigns_75 : decode prog_11_method_10_code 75 = .ok (.iload 6, 2) := by decide +kernel
theorem d_Unpacker_takeSigns_77 : decode prog_11_method_10_code 77 = .ok (.ifCond .ne 5, 3) := by decide +kernel
theorem d_Unpacker_takeSigns_80 : decode prog_11_method_10_code 80 = .ok (.iconst 0, 1) := by decide +kernel
theorem d_Unpacker_takeSigns_81 : decode prog_11_method_10_code 81 = .ok (.ireturn, 1) := by decide +kernel
theorem d_Unpacker_takeSigns_82 : decode prog_11_method_10_code 82 = .ok (.iinc 3 1, 3) := by decide +kernel
theorem d_Unpacker_takeSigns_85 : decode prog_11_method_10_code 85 = .ok (.goto (-83), 3) := by decide +kernel
theorem d_Unpacker_takeSigns_88 : decode prog_11_method_10_code 88 = .ok (.aload_n 0, 1) := by decide +kernel
theorem d_Unpacker_takeSigns_89 : decode prog_11_method_10_code 89 = .ok (.getfield 40, 3) := by decide +kernel
theorem d_Unpacker_takeSigns_92 : decode prog_11_method_10_code 92 = .ok (.bipush 20, 2) := by decide +kernel
theorem d_Unpacker_takeSigns_94 : decode prog_11_method_10_code 94 = .ok (.aload_n 0, 1) := by decide +kernel
theorem d_Unpacker_takeSigns_95 : decode prog_11_method_10_code 95 = .ok (.getfield 36, 3) := by decide +kernel
theorem d_Unpacker_takeSigns_98 : decode prog_11_method_10_code 98 = .ok (.ldc 69, 2) := by decide +kernel
theorem d_Unpacker_takeSigns_100 : decode prog_11_method_10_code 100 = .ok (.invokevirtual 82, 3) := by decide +kernel
theorem d_Unpacker_takeSigns_103 : decode prog_11_method_10_code 103 = .ok (.invokevirtual 85, 3) := by decide +kernel
theorem d_Unpacker_takeSigns_106 : decode prog_11_method_10_code 106 = .ok (.ireturn, 1) := by decide +kernel
set_option maxRecDepth 100000 in
set_option maxHeartbeats 4000000 in
theorem c_Unpacker_takeSigns {l0 : Launch} (hl : l0.stackTraces = false) (n : Nat) (ids : List Nat) {t : Nat} (ht : mm_ok ids t 1 6) {r0 : Nat} (hr0 : mm_ok ids r0 1 7) {r1 : Nat} (hr1 : mm_ok ids r1 1 7)  (σ : Mm) : kw_C l0 y_Unpacker_takeSigns (Cond.code y_Unpacker_takeSigns prog_11_method_10_code 7 (some .boolean) :: kw_Ts) rm_Unpacker_takeSigns kw_oi ids [] [.ref t, .ref r0, .ref r1] σ (F_Unpacker_takeSigns n t r0 r1 σ) := by
  refine kw_start (L0 := [some (.ref t), some (.ref r0), some (.ref r1), none, none, none, none]) hl (by decide +kernel) (Nat.le_of_ble_eq_true rfl) rfl (fun Γ ad C Ce => ?_)
  unfold F_Unpacker_takeSigns
  refine kw_iconst (v := 0) C d_Unpacker_takeSigns_0 (by decide) ?_
  refine kw_istore_n (L' := [some (.ref t), some (.ref r0), some (.ref r1), some (.int 0), none, none, none]) C d_Unpacker_takeSigns_1 (by decide) rfl ?_
  refine kw_wk (kw_l (α := Int32) (pc := 2) (Lj := fun x2 => [some (.ref t), some (.ref r0), some (.ref r1), some (.int x2), none, none, none]) (stj := fun x2 => []) (fun k1 hk1 x2 σ3 => ?_) n 0 σ) ⟨Or.inr rfl, Or.inr rfl, Or.inr rfl, Or.inr rfl, Or.inl rfl, Or.inl rfl, Or.inl rfl, trivial⟩
  refine kw_iload_n C d_Unpacker_takeSigns_2 rfl ?_
  refine kw_ldc (v := 524288) C d_Unpacker_takeSigns_3 k_Unpacker_69 ?_
  refine kw_icmp_ge (tgt := 88) C d_Unpacker_takeSigns_5 (by decide) ?_ ?_
  · refine kw_aload_n C d_Unpacker_takeSigns_88 rfl ?_
    refine kw_getR C fi_Unpacker_40 rfl rfl ht d_Unpacker_takeSigns_89 (fun o4 ho4 => ?_)
    refine kw_bipush (v := 20) C d_Unpacker_takeSigns_92 (by decide) ?_
    refine kw_aload_n C d_Unpacker_takeSigns_94 rfl ?_
    refine kw_getR C fi_Unpacker_36 rfl rfl ht d_Unpacker_takeSigns_95 (fun o5 ho5 => ?_)
    refine kw_ldc (v := 524288) C d_Unpacker_takeSigns_98 k_Unpacker_69 ?_
    refine kw_callVi (cl' := 0) (sl' := 0) (As := [.int 524288]) C (c_PackedBits_placeOf hl n ids ho5 524288 σ3) mi_Unpacker_82 v_PackedBits_placeOf ⟨_, _, rfl⟩ ho5 ⟨Nat.le_of_ble_eq_true rfl, Nat.le_of_ble_eq_true rfl⟩ (Nat.le_of_ble_eq_true rfl) ⟨Nat.le_of_ble_eq_true rfl, Nat.le_of_ble_eq_true rfl⟩ ⟨rfl, rfl⟩ rfl d_Unpacker_takeSigns_100 (fun x6 σ7 => ?_)
    refine kw_callVi (cl' := 0) (sl' := 0) (As := [.int 20, .int x6]) C (c_Fault_refuse hl n ids ho4 20 x6 σ7) mi_Unpacker_85 v_Fault_refuse ⟨_, _, rfl⟩ ho4 ⟨Nat.le_of_ble_eq_true rfl, Nat.le_of_ble_eq_true rfl⟩ (Nat.le_of_ble_eq_true rfl) ⟨Nat.le_of_ble_eq_true rfl, Nat.le_of_ble_eq_true rfl⟩ ⟨rfl, rfl⟩ rfl d_Unpacker_takeSigns_103 (fun x8 σ9 => ?_)
    exact kw_zret C Ce rfl (by simp) (fun _ _ => rfl) (Nat.le_of_ble_eq_true rfl) (Nat.le_of_ble_eq_true rfl) rfl d_Unpacker_takeSigns_106
  · refine kw_aload_n C d_Unpacker_takeSigns_8 rfl ?_
    refine kw_getR C fi_Unpacker_36 rfl rfl ht d_Unpacker_takeSigns_9 (fun o10 ho10 => ?_)
    refine kw_getI C fi_Unpacker_94 (Or.inl rfl) ho10 d_Unpacker_takeSigns_12 ?_
    refine kw_leti (fun x11 => ?_)
    refine kw_istore (L' := [some (.ref t), some (.ref r0), some (.ref r1), some (.int x2), some (.int x11), none, none]) C d_Unpacker_takeSigns_15 (by decide) rfl ?_
    refine kw_aload_n C d_Unpacker_takeSigns_17 rfl ?_
    refine kw_getR C fi_Unpacker_36 rfl rfl ht d_Unpacker_takeSigns_18 (fun o12 ho12 => ?_)
    refine kw_aload_n C d_Unpacker_takeSigns_21 rfl ?_
    refine kw_callVi (cl' := 0) (sl' := 0) (As := [.ref r0]) C (c_PackedBits_meaning hl n ids ho12 hr0  σ3) mi_Unpacker_139 v_PackedBits_meaning ⟨_, _, rfl⟩ ho12 ⟨Nat.le_of_ble_eq_true rfl, Nat.le_of_ble_eq_true rfl⟩ (Nat.le_of_ble_eq_true rfl) ⟨Nat.le_of_ble_eq_true rfl, Nat.le_of_ble_eq_true rfl⟩ ⟨rfl, rfl⟩ rfl d_Unpacker_takeSigns_22 (fun x13 σ14 => ?_)
    refine kw_istore (L' := [some (.ref t), some (.ref r0), some (.ref r1), some (.int x2), some (.int x11), some (.int x13), none]) C d_Unpacker_takeSigns_25 (by decide) rfl ?_
    refine kw_iload C d_Unpacker_takeSigns_27 rfl ?_
    refine kw_iconst (v := -1) C d_Unpacker_takeSigns_29 (by decide) ?_
    refine kw_icmp_ne (tgt := 35) C d_Unpacker_takeSigns_30 (by decide) ?_ ?_
    · refine kw_iload C d_Unpacker_takeSigns_35 rfl ?_
      refine kw_sipush (v := 256) C d_Unpacker_takeSigns_37 (by decide) ?_
      refine kw_icmp_ne (tgt := 45) C d_Unpacker_takeSigns_40 (by decide) ?_ ?_
      · refine kw_iload C d_Unpacker_takeSigns_45 rfl ?_
        refine kw_sipush (v := 256) C d_Unpacker_takeSigns_47 (by decide) ?_
        refine kw_j (α := Int32) (pcj := 73) (Lj := fun x16 => [some (.ref t), some (.ref r0), some (.ref r1), some (.int x2), none, none, none]) (stj := fun x16 => [.int x16]) (fun x16 σ17 => ?_) (fun k15 hk15 => ?_)
        · refine kw_istore (L' := [some (.ref t), some (.ref r0), some (.ref r1), some (.int x2), none, none, some (.int x16)]) C d_Unpacker_takeSigns_73 (by decide) rfl ?_
          refine kw_iload C d_Unpacker_takeSigns_75 rfl ?_
          refine kw_if_ne (tgt := 82) C d_Unpacker_takeSigns_77 (by decide) ?_ ?_
          · refine kw_iincL (L2 := fun x18 => [some (.ref t), some (.ref r0), some (.ref r1), some (.int x18), none, none, some (.int x16)]) C d_Unpacker_takeSigns_82 (by decide) rfl (fun _ => rfl) (fun x18 => ?_)
            refine kw_goto (tgt := 2) C d_Unpacker_takeSigns_85 (by decide) ?_
            exact kw_wk (hk1 x18 σ17) ⟨Or.inr rfl, Or.inr rfl, Or.inr rfl, Or.inr rfl, Or.inl rfl, Or.inl rfl, Or.inl rfl, trivial⟩
          · refine kw_iconst (v := 0) C d_Unpacker_takeSigns_80 (by decide) ?_
            exact kw_zret C Ce rfl (by simp) (fun _ _ => rfl) (Nat.le_of_ble_eq_true rfl) (Nat.le_of_ble_eq_true rfl) rfl d_Unpacker_takeSigns_81
        · refine kw_icmp_ge (tgt := 64) C d_Unpacker_takeSigns_50 (by decide) ?_ ?_
          · refine kw_aload_n C d_Unpacker_takeSigns_64 rfl ?_
            refine kw_iload C d_Unpacker_takeSigns_65 rfl ?_
            refine kw_iload C d_Unpacker_takeSigns_67 rfl ?_
            refine kw_aload_n C d_Unpacker_takeSigns_69 rfl ?_
            refine kw_callVi (cl' := 0) (sl' := 0) (As := [.int x13, .int x11, .ref r1]) C (c_Unpacker_takeCopy hl n ids ht hr1 x13 x11 σ14) mi_Unpacker_143 v_Unpacker_takeCopy ⟨_, _, rfl⟩ ht ⟨Nat.le_of_ble_eq_true rfl, Nat.le_of_ble_eq_true rfl⟩ (Nat.le_of_ble_eq_true rfl) ⟨Nat.le_of_ble_eq_true rfl, Nat.le_of_ble_eq_true rfl⟩ ⟨rfl, rfl⟩ rfl d_Unpacker_takeSigns_70 (fun x19 σ20 => ?_)
            exact kw_wk (hk15 x19 σ20) ⟨Or.inr rfl, Or.inr rfl, Or.inr rfl, Or.inr rfl, Or.inl rfl, Or.inl rfl, Or.inl rfl, trivial⟩
          · refine kw_aload_n C d_Unpacker_takeSigns_53 rfl ?_
            refine kw_iload C d_Unpacker_takeSigns_54 rfl ?_
            refine kw_iload C d_Unpacker_takeSigns_56 rfl ?_
            refine kw_callVi (cl' := 0) (sl' := 0) (As := [.int x13, .int x11]) C (c_Unpacker_putByte hl n ids ht x13 x11 σ14) mi_Unpacker_111 v_Unpacker_putByte ⟨_, _, rfl⟩ ht ⟨Nat.le_of_ble_eq_true rfl, Nat.le_of_ble_eq_true rfl⟩ (Nat.le_of_ble_eq_true rfl) ⟨Nat.le_of_ble_eq_true rfl, Nat.le_of_ble_eq_true rfl⟩ ⟨rfl, rfl⟩ rfl d_Unpacker_takeSigns_58 (fun x21 σ22 => ?_)
            refine kw_goto (tgt := 73) C d_Unpacker_takeSigns_61 (by decide) ?_
            exact kw_wk (hk15 x21 σ22) ⟨Or.inr rfl, Or.inr rfl, Or.inr rfl, Or.inr rfl, Or.inl rfl, Or.inl rfl, Or.inl rfl, trivial⟩
      · refine kw_iconst (v := 1) C d_Unpacker_takeSigns_43 (by decide) ?_
        exact kw_zret C Ce rfl (by simp) (fun _ _ => rfl) (Nat.le_of_ble_eq_true rfl) (Nat.le_of_ble_eq_true rfl) rfl d_Unpacker_takeSigns_44
    · refine kw_iconst (v := 0) C d_Unpacker_takeSigns_33 (by decide) ?_
      exact kw_zret C Ce rfl (by simp) (fun _ _ => rfl) (Nat.le_of_ble_eq_true rfl) (Nat.le_of_ble_eq_true rfl) rfl d_Unpacker_takeSigns_34
/-! Codes_isFull -/
def rm_Codes_isFull : Room := { frames := 0, cells := 0, slots := 0, locals := 0 }
def F_Codes_isFull (n : Nat) (t : Nat) (σ : Mm) : Option (Int32 × Mm) :=
kf_l (α := Int32 × Int32) n (fun k1 x2 σ3 =>
if 15 < x2.2 then (
kf_j (α := Int32) (fun x5 σ6 =>
kf_z x5 (some (x5, σ6))) fun k4 =>
if x2.1 = 0 then (
k4 1 σ3) else (
k4 0 σ3)) else (
Option.bind (gR σ3 (64 * t + 0)) fun o7 =>
kf_in x2.2 (mm_kd o7).2.2 <|
kf_let (x2.1 - ((gB σ3 o7 x2.2.toNatClampNeg) <<< (((15 : Int32) - x2.2) &&& 31)) : Int32) fun x8 =>
kf_let (x2.2 + Int32.ofInt 1) fun x9 =>
k1 (x8, x9) σ3)) (32768, 1) σ
theorem d_Codes_isFull_0 : decode prog_2_method_3_code 0 = .ok (.ldc 32, 2) := by decide +kernel
theorem d_Codes_isFull_2 : decode prog_2_method_3_code 2 = .ok (.istore_n 1, 1) := by decide +kernel
theorem d_Codes_isFull_3 : decode prog_2_method_3_code 3 = .ok (.iconst 1, 1) := by decide +kernel
theorem d_Codes_isFull_4 : decode prog_2_method_3_code 4 = .ok (.istore_n 2, 1) := by decide +kernel
theorem d_Codes_isFull_5 : decode prog_2_method_3_code 5 = .ok (.iload_n 2, 1) := by decide +kernel
theorem d_Codes_isFull_6 : decode prog_2_method_3_code 6 = .ok (.bipush 15, 2) := by decide +kernel
theorem d_Codes_isFull_8 : decode prog_2_method_3_code 8 = .ok (.if_icmp .gt 23, 3) := by decide +kernel
theorem d_Codes_isFull_11 : decode prog_2_method_3_code 11 = .ok (.iload_n 1, 1) := by decide +kernel
theorem d_Codes_isFull_12 : decode prog_2_method_3_code 12 = .ok (.aload_n 0, 1) := by decide +kernel
theorem d_Codes_isFull_13 : decode prog_2_method_3_code 13 = .ok (.getfield 9, 3) := by decide +kernel
theorem d_Codes_isFull_16 : decode prog_2_method_3_code 16 = .ok (.iload_n 2, 1) := by decide +kernel
theorem d_Codes_isFull_17 : decode prog_2_method_3_code 17 = .ok (.iaload, 1) := by decide +kernel
theorem d_Codes_isFull_18 : decode prog_2_method_3_code 18 = .ok (.bipush 15, 2) := by decide +kernel
theorem d_Codes_isFull_20 : decode prog_2_method_3_code 20 = .ok (.iload_n 2, 1) := by decide +kernel
theorem d_Codes_isFull_21 : decode prog_2_method_3_code 21 = .ok (.isub, 1) := by decide +kernel
theorem d_Codes_isFull_22 : decode prog_2_method_3_code 22 = .ok (.ishl, 1) := by decide +kernel
theorem d_Codes_isFull_23 : decode prog_2_method_3_code 23 = .ok (.isub, 1) := by decide +kernel
theorem d_Codes_isFull_24 : decode prog_2_method_3_code 24 = .ok (.istore_n 1, 1) := by decide +kernel
theorem d_Codes_isFull_25 : decode prog_2_method_3_code 25 = .ok (.iinc 2 1, 3) := by decide +kernel
theorem d_Codes_isFull_28 : decode prog_2_method_3_code 28 = .ok (.goto (-23), 3) := by decide +kernel
theorem d_Codes_isFull_31 : decode prog_2_method_3_code 31 = .ok (.iload_n 1, 1) := by decide +kernel
theorem d_Codes_isFull_32 : decode prog_2_method_3_code 32 = .ok (.ifCond .ne 7, 3) := by decide +kernel
theorem d_Codes_isFull_35 : decode prog_2_method_3_code 35 = .ok (.iconst 1, 1) := by decide +kernel
theorem d_Codes_isFull_36 : decode prog_2_method_3_code 36 = .ok (.goto 4, 3) := by decide +kernel
theorem d_Codes_isFull_39 : decode prog_2_method_3_code 39 = .ok (.iconst 0, 1) := by decide +kernel
theorem d_Codes_isFull_40 : decode prog_2_method_3_code 40 = .ok (.ireturn, 1) := by decide +kernel
set_option maxRecDepth 100000 in
set_option maxHeartbeats 4000000 in
theorem c_Codes_isFull {l0 : Launch} (hl : l0.stackTraces = false) (n : Nat) (ids : List Nat) {t : Nat} (ht : mm_ok ids t 1 7)  (σ : Mm) : kw_C l0 y_Codes_isFull (Cond.code y_Codes_isFull prog_2_method_3_code 3 (some .boolean) :: kw_Ts) rm_Codes_isFull kw_oi ids [] [.ref t] σ (F_Codes_isFull n t σ) := by
  refine kw_start (L0 := [some (.ref t), none, none]) hl (by decide +kernel) (Nat.le_of_ble_eq_true rfl) rfl (fun Γ ad C Ce => ?_)
  unfold F_Codes_isFull
  refine kw_ldc (v := 32768) C d_Codes_isFull_0 k_Codes_32 ?_
  refine kw_istore_n (L' := [some (.ref t), some (.int 32768), none]) C d_Codes_isFull_2 (by decide) rfl ?_
  refine kw_iconst (v := 1) C d_Codes_isFull_3 (by decide) ?_
  refine kw_istore_n (L' := [some (.ref t), some (.int 32768), some (.int 1)]) C d_Codes_isFull_4 (by decide) rfl ?_
  refine kw_wk (kw_l (α := Int32 × Int32) (pc := 5) (Lj := fun x2 => [some (.ref t), some (.int x2.1), some (.int x2.2)]) (stj := fun x2 => []) (fun k1 hk1 x2 σ3 => ?_) n (32768, 1) σ) ⟨Or.inr rfl, Or.inr rfl, Or.inr rfl, trivial⟩
  refine kw_iload_n C d_Codes_isFull_5 rfl ?_
  refine kw_bipush (v := 15) C d_Codes_isFull_6 (by decide) ?_
  refine kw_icmp_gt (tgt := 31) C d_Codes_isFull_8 (by decide) ?_ ?_
  · refine kw_iload_n C d_Codes_isFull_31 rfl ?_
    refine kw_j (α := Int32) (pcj := 40) (Lj := fun x5 => [none, none, none]) (stj := fun x5 => [.int x5]) (fun x5 σ6 => ?_) (fun k4 hk4 => ?_)
    · exact kw_zret C Ce rfl (by simp) (fun _ _ => rfl) (Nat.le_of_ble_eq_true rfl) (Nat.le_of_ble_eq_true rfl) rfl d_Codes_isFull_40
    · refine kw_if_ne (tgt := 39) C d_Codes_isFull_32 (by decide) ?_ ?_
      · refine kw_iconst (v := 0) C d_Codes_isFull_39 (by decide) ?_
        exact kw_wk (hk4 0 σ3) ⟨Or.inl rfl, Or.inl rfl, Or.inl rfl, trivial⟩
      · refine kw_iconst (v := 1) C d_Codes_isFull_35 (by decide) ?_
        refine kw_goto (tgt := 40) C d_Codes_isFull_36 (by decide) ?_
        exact kw_wk (hk4 1 σ3) ⟨Or.inl rfl, Or.inl rfl, Or.inl rfl, trivial⟩
  · refine kw_iload_n C d_Codes_isFull_11 rfl ?_
    refine kw_aload_n C d_Codes_isFull_12 rfl ?_
    refine kw_getR C fi_Codes_9 rfl rfl ht d_Codes_isFull_13 (fun o7 ho7 => ?_)
    refine kw_iload_n C d_Codes_isFull_16 rfl ?_
    refine kw_iald C (Or.inl ⟨ho7.1, ho7.2.1⟩) d_Codes_isFull_17 ?_
    refine kw_bipush (v := 15) C d_Codes_isFull_18 (by decide) ?_
    refine kw_iload_n C d_Codes_isFull_20 rfl ?_
    refine kw_isub C d_Codes_isFull_21 ?_
    refine kw_ishl C d_Codes_isFull_22 ?_
    refine kw_isub C d_Codes_isFull_23 ?_
    refine kw_leti (fun x8 => ?_)
    refine kw_istore_n (L' := [some (.ref t), some (.int x8), some (.int x2.2)]) C d_Codes_isFull_24 (by decide) rfl ?_
    refine kw_iincL (L2 := fun x9 => [some (.ref t), some (.int x8), some (.int x9)]) C d_Codes_isFull_25 (by decide) rfl (fun _ => rfl) (fun x9 => ?_)
    refine kw_goto (tgt := 5) C d_Codes_isFull_28 (by decide) ?_
    exact kw_wk (hk1 (x8, x9) σ3) ⟨Or.inr rfl, Or.inr rfl, Or.inr rfl, trivial⟩
/-! Unpacker_takeLengthCodes -/
def rm_Unpacker_takeLengthCodes : Room := { frames := 2, cells := 0, slots := 0, locals := 48 }
def F_Unpacker_takeLengthCodes (n : Nat) (t : Nat) (σ : Mm) : Option (Int32 × Mm) :=
Option.bind (gR σ (64 * t + 0)) fun o1 =>
kf_c2 (F_PackedBits_number n o1 4 σ) fun x2 σ3 =>
if x2 = (-1) then (
kf_z 0 (some (0, σ3))) else (
Option.bind (gR σ3 (64 * t + 0)) fun o4 =>
kf_let (gS σ3 (64 * o4 + 5) : Int32) fun x5 =>
Option.bind (gR σ3 (64 * t + 9)) fun o6 =>
Option.bind (F_Arr_fill n o6 0 σ3) fun σ7 =>
kf_l (α := Int32) n (fun k8 x9 σ10 =>
if (x2 + 4) ≤ x9 then (
Option.bind (gR σ10 (64 * t + 6)) fun o11 =>
Option.bind (gR σ10 (64 * t + 9)) fun o12 =>
Option.bind (F_Codes_assign n o11 o12 0 (Int32.ofNat (mm_kd 109).2.2) σ10) fun σ13 =>
Option.bind (gR σ13 (64 * t + 6)) fun o14 =>
kf_c2 (F_Codes_isFull n o14 σ13) fun x15 σ16 =>
kf_j (α := Int32) (fun x18 σ19 =>
kf_z x18 (some (x18, σ19))) fun k17 =>
kf_j (α := Unit) (fun x21 σ22 =>
k17 1 σ22) fun k20 =>
if x15 = 0 then (
Option.bind (gR σ16 (64 * t + 1)) fun o23 =>
Option.bind (gR σ16 (64 * t + 0)) fun o24 =>
kf_c2 (F_PackedBits_placeOf n o24 x5 σ16) fun x25 σ26 =>
kf_c2 (F_Fault_refuse n o23 24 x25 σ26) fun x27 σ28 =>
if x27 = 0 then (
k17 0 σ28) else (
k20 () σ28)) else (
k20 () σ16)) else (
Option.bind (gR σ10 (64 * t + 0)) fun o29 =>
kf_c2 (F_PackedBits_number n o29 3 σ10) fun x30 σ31 =>
if x30 = (-1) then (
kf_z 0 (some (0, σ31))) else (
Option.bind (gR σ31 (64 * t + 9)) fun o32 =>
kf_in x9 (mm_kd 109).2.2 <|
kf_in (gB σ31 109 x9.toNatClampNeg) (mm_kd o32).2.2 <| kf_let (pB σ31 o32 (gB σ31 109 x9.toNatClampNeg).toNatClampNeg x30) fun σ33 =>
kf_let (x9 + Int32.ofInt 1) fun x34 =>
k8 x34 σ33))) 0 σ7)
theorem d_Unpacker_takeLengthCodes_0 : decode prog_11_method_8_code 0 = .ok (.aload_n 0, 1) := by decide +kernel
theorem d_Unpacker_takeLengthCodes_1 : decode prog_11_method_8_code 1 = .ok (.getfield 36, 3) := by decide +kernel
theorem d_Unpacker_takeLengthCodes_4 : decode prog_11_method_8_code 4 = .ok (.iconst 4, 1) := by decide +kernel
theorem d_Unpacker_takeLengthCodes_5 : decode prog_11_method_8_code 5 = .ok (.invokevirtual 70, 3) := by decide +kernel
theorem d_Unpacker_takeLengthCodes_8 : decode prog_11_method_8_code 8 = .ok (.istore_n 1, 1) := by decide +kernel
theorem d_Unpacker_takeLengthCodes_9 : decode prog_11_method_8_code 9 = .ok (.iload_n 1, 1) := by decide +kernel
theorem d_Unpacker_takeLengthCodes_10 : decode prog_11_method_8_code 10 = .ok (.iconst (-1), 1) := by decide +kernel
theorem d_Unpacker_takeLengthCodes_11 : decode prog_11_method_8_code 11 = .ok (.if_icmp .ne 5, 3) := by decide +kernel
theorem d_Unpacker_takeLengthCodes_14 : decode prog_11_method_8_code 14 = .ok (.iconst 0, 1) := by decide +kernel
theorem d_Unpacker_takeLengthCodes_15 : decode prog_11_method_8_code 15 = .ok (.ireturn, 1) := by decide +kernel
theorem d_Unpacker_takeLengthCodes_16 : decode prog_11_method_8_code 16 = .ok (.aload_n 0, 1) := by decide +kernel
theorem d_Unpacker_takeLengthCodes_17 : decode prog_11_method_8_code 17 = .ok (.getfield 36, 3) := by decide +kernel
theorem d_Unpacker_takeLengthCodes_20 : decode prog_11_method_8_code 20 = .ok (.getfield 94, 3) := by decide +kernel
theorem d_Unpacker_takeLengthCodes_23 : decode prog_11_method_8_code 23 = .ok (.istore_n 2, 1) := by decide +kernel
theorem d_Unpacker_takeLengthCodes_24 : decode prog_11_method_8_code 24 = .ok (.aload_n 0, 1) := by decide +kernel
theorem d_Unpacker_takeLengthCodes_25 : decode prog_11_method_8_code 25 = .ok (.getfield 32, 3) := by decide +kernel
theorem d_Unpacker_takeLengthCodes_28 : decode prog_11_method_8_code 28 = .ok (.iconst 0, 1) := by decide +kernel
theorem d_Unpacker_takeLengthCodes_29 : decode prog_11_method_8_code 29 = .ok (.invokestatic 130, 3) := by decide +kernel
theorem d_Unpacker_takeLengthCodes_32 : decode prog_11_method_8_code 32 = .ok (.iconst 0, 1) := by decide +kernel
theorem d_Unpacker_takeLengthCodes_33 : decode prog_11_method_8_code 33 = .ok (.istore_n 3, 1) := by decide +kernel
theorem d_Unpacker_takeLengthCodes_34 : decode prog_11_method_8_code 34 = .ok (.iload_n 3, 1) := by decide +kernel
theorem d_Unpacker_takeLengthCodes_35 : decode prog_11_method_8_code 35 = .ok (.iload_n 1, 1) := by decide +kernel
theorem d_Unpacker_takeLengthCodes_36 : decode prog_11_method_8_code 36 = .ok (.iconst 4, 1) := by decide +kernel
theorem d_Unpacker_takeLengthCodes_37 : decode prog_11_method_8_code 37 = .ok (.iadd, 1) := by decide +kernel
theorem d_Unpacker_takeLengthCodes_38 : decode prog_11_method_8_code 38 = .ok (.if_icmp .ge 39, 3) := by decide +kernel
theorem d_Unpacker_takeLengthCodes_41 : decode prog_11_method_8_code 41 = .ok (.aload_n 0, 1) := by decide +kernel
theorem d_Unpacker_takeLengthCodes_42 : decode prog_11_method_8_code 42 = .ok (.getfield 36, 3) := by decide +kernel
theorem d_Unpacker_takeLengthCodes_45 : decode prog_11_method_8_code 45 = .ok (.iconst 3, 1) := by decide +kernel
theorem d_Unpacker_takeLengthCodes_46 : decode prog_11_method_8_code 46 = .ok (.invokevirtual 70, 3) := by decide +kernel
theorem d_Unpacker_takeLengthCodes_49 : decode prog_11_method_8_code 49 = .ok (.istore 4, 2) := by decide +kernel
theorem d_Unpacker_takeLengthCodes_51 : decode prog_11_method_8_code 51 = .ok (.iload 4, 2) := by decide +kernel
theorem d_Unpacker_takeLengthCodes_53 : decode prog_11_method_8_code 53 = .ok (.iconst (-1), 1) := by decide +kernel
theorem d_Unpacker_takeLengthCodes_54 : decode prog_11_method_8_code 54 = .ok (.if_icmp .ne 5, 3) := by decide +kernel
theorem d_Unpacker_takeLengthCodes_57 : decode prog_11_method_8_code 57 = .ok (.iconst 0, 1) := by decide +kernel
theorem d_Unpacker_takeLengthCodes_58 : decode prog_11_method_8_code 58 = .ok (.ireturn, 1) := by decide +kernel
theorem d_Unpacker_takeLengthCodes_59 : decode prog_11_method_8_code 59 = .ok (.aload_n 0, 1) := by decide +kernel
theorem d_Unpacker_takeLengthCodes_60 : decode prog_11_method_8_code 60 = .ok (.getfield 32, 3) := by decide +kernel
theorem d_Unpacker_takeLengthCodes_63 : decode prog_11_method_8_code 63 = .ok (.getstatic 136, 3) := by decide +kernel
theorem d_Unpacker_takeLengthCodes_66 : decode prog_11_method_8_code 66 = .ok (.iload_n 3, 1) := by decide +kernel
theorem d_Unpacker_takeLengthCodes_67 : decode prog_11_method_8_code 67 = .ok (.iaload, 1) := by decide +kernel
theorem d_Unpacker_takeLengthCodes_68 : decode prog_11_method_8_code 68 = .ok (.iload 4, 2) := by decide +kernel
theorem d_Unpacker_takeLengthCodes_70 : decode prog_11_method_8_code 70 = .ok (.iastore, 1) := by decide +kernel
theorem d_Unpacker_takeLengthCodes_71 : decode prog_11_method_8_code 71 = .ok (.iinc 3 1, 3) := by decide +kernel
theorem d_Unpacker_takeLengthCodes_74 : decode prog_11_method_8_code 74 = .ok (.goto (-40), 3) := by decide +kernel
theorem d_Unpacker_takeLengthCodes_77 : decode prog_11_method_8_code 77 = .ok (.aload_n 0, 1) := by decide +kernel
theorem d_Unpacker_takeLengthCodes_78 : decode prog_11_method_8_code 78 = .ok (.getfield 23, 3) := by decide +kernel
theorem d_Unpacker_takeLengthCodes_81 : decode prog_11_method_8_code 81 = .ok (.aload_n 0, 1) := by decide +kernel
theorem d_Unpacker_takeLengthCodes_82 : decode prog_11_method_8_code 82 = .ok (.getfield 32, 3) := by decide +kernel
theorem d_Unpacker_takeLengthCodes_85 : decode prog_11_method_8_code 85 = .ok (.iconst 0, 1) := by decide +kernel
theorem d_Unpacker_takeLengthCodes_86 : decode prog_11_method_8_code 86 = .ok (.getstatic 136, 3) := by decide +kernel
theorem d_Unpacker_takeLengthCodes_89 : decode prog_11_method_8_code 89 = .ok (.arraylength, 1) := by decide +kernel
theorem d_Unpacker_takeLengthCodes_90 : decode prog_11_method_8_code 90 = .ok (.invokevirtual 54, 3) := by decide +kernel
theorem d_Unpacker_takeLengthCodes_93 : decode prog_11_method_8_code 93 = .ok (.aload_n 0, 1) := by decide +kernel
theorem d_Unpacker_takeLengthCodes_94 : decode prog_11_method_8_code 94 = .ok (.getfield 23, 3) := by decide +kernel
theorem d_Unpacker_takeLengthCodes_97 : decode prog_11_method_8_code 97 = .ok (.invokevirtual 121, 3) := by decide +kernel
theorem d_Unpacker_takeLengthCodes_100 : decode prog_11_method_8_code 100 = .ok (.ifCond .ne 23, 3) := by decide +kernel
theorem d_Unpacker_takeLengthCodes_103 : decode prog_11_method_8_code 103 = .ok (.aload_n 0, 1) := by decide +kernel
theorem d_Unpacker_takeLengthCodes_104 : decode prog_11_method_8_code 104 = .ok (.getfield 40, 3) := by decide +kernel
theorem d_Unpacker_takeLengthCodes_107 : decode prog_11_method_8_code 107 = .ok (.bipush 24, 2) := by decide +kernel
theorem d_Unpacker_takeLengthCodes_109 : decode prog_11_method_8_code 109 = .ok (.aload_n 0, 1) := by decide +kernel
theorem d_Unpacker_takeLengthCodes_110 : decode prog_11_method_8_code 110 = .ok (.getfield 36, 3) := by decide +kernel
theorem d_Unpacker_takeLengthCodes_113 : decode prog_11_method_8_code 113 = .ok (.iload_n 2, 1) := by decide +kernel
theorem d_Unpacker_takeLengthCodes_114 : decode prog_11_method_8_code 114 = .ok (.invokevirtual 82, 3) := by decide +kernel
theorem d_Unpacker_takeLengthCodes_117 : decode prog_11_method_8_code 117 = .ok (.invokevirtual 85, 3) := by decide +kernel
theorem d_Unpacker_takeLengthCodes_120 : decode prog_11_method_8_code 120 = .ok (.ifCond .eq 7, 3) := by decide +kernel
theorem d_Unpacker_takeLengthCodes_123 : decode prog_11_method_8_code 123 = .ok (.iconst 1, 1) := by decide +kernel
theorem d_Unpacker_takeLengthCodes_124 : decode prog_11_method_8_code 124 = .ok (.goto 4, 3) := by decide +kernel
theorem d_Unpacker_takeLengthCodes_127 : decode prog_11_method_8_code 127 = .ok (.iconst 0, 1) := by decide +kernel
theorem d_Unpacker_takeLengthCodes_128 : decode prog_11_method_8_code 128 = .ok (.ireturn, 1) := by decide +kernel
set_option maxRecDepth 100000 in
set_option maxHeartbeats 4000000 in
theorem c_Unpacker_takeLengthCodes {l0 : Launch} (hl : l0.stackTraces = false) (n : Nat) (ids : List Nat) {t : Nat} (ht : mm_ok ids t 1 6)  (σ : Mm) : kw_C l0 y_Unpacker_takeLengthCodes (Cond.code y_Unpacker_takeLengthCodes prog_11_method_8_code 5 (some .boolean) :: kw_Ts) rm_Unpacker_takeLengthCodes kw_oi ids [] [.ref t] σ (F_Unpacker_takeLengthCodes n t σ) := by
  refine kw_start (L0 := [some (.ref t), none, none, none, none]) hl (by decide +kernel) (Nat.le_of_ble_eq_true rfl) rfl (fun Γ ad C Ce => ?_)
  unfold F_Unpacker_takeLengthCodes
  refine kw_aload_n C d_Unpacker_takeLengthCodes_0 rfl ?_
  refine kw_getR C fi_Unpacker_36 rfl rfl ht d_Unpacker_takeLengthCodes_1 (fun o1 ho1 => ?_)
  refine kw_iconst (v := 4) C d_Unpacker_takeLengthCodes_4 (by decide) ?_
  refine kw_callVi (cl' := 0) (sl' := 0) (As := [.int 4]) C (c_PackedBits_number hl n ids ho1 4 σ) mi_Unpacker_70 v_PackedBits_number ⟨_, _, rfl⟩ ho1 ⟨Nat.le_of_ble_eq_true rfl, Nat.le_of_ble_eq_true rfl⟩ (Nat.le_of_ble_eq_true rfl) ⟨Nat.le_of_ble_eq_true rfl, Nat.le_of_ble_eq_true rfl⟩ ⟨rfl, rfl⟩ rfl d_Unpacker_takeLengthCodes_5 (fun x2 σ3 => ?_)
  refine kw_istore_n (L' := [some (.ref t), some (.int x2), none, none, none]) C d_Unpacker_takeLengthCodes_8 (by decide) rfl ?_
  refine kw_iload_n C d_Unpacker_takeLengthCodes_9 rfl ?_
  refine kw_iconst (v := -1) C d_Unpacker_takeLengthCodes_10 (by decide) ?_
  refine kw_icmp_ne (tgt := 16) C d_Unpacker_takeLengthCodes_11 (by decide) ?_ ?_
  · refine kw_aload_n C d_Unpacker_takeLengthCodes_16 rfl ?_
    refine kw_getR C fi_Unpacker_36 rfl rfl ht d_Unpacker_takeLengthCodes_17 (fun o4 ho4 => ?_)
    refine kw_getI C fi_Unpacker_94 (Or.inl rfl) ho4 d_Unpacker_takeLengthCodes_20 ?_
    refine kw_leti (fun x5 => ?_)
    refine kw_istore_n (L' := [some (.ref t), some (.int x2), some (.int x5), none, none]) C d_Unpacker_takeLengthCodes_23 (by decide) rfl ?_
    refine kw_aload_n C d_Unpacker_takeLengthCodes_24 rfl ?_
    refine kw_getR C fi_Unpacker_32 rfl rfl ht d_Unpacker_takeLengthCodes_25 (fun o6 ho6 => ?_)
    refine kw_iconst (v := 0) C d_Unpacker_takeLengthCodes_28 (by decide) ?_
    refine kw_callSv (cl' := 0) (sl' := 0) (As := [.ref o6, .int 0]) C (c_Arr_fill hl n ids ho6 0 σ3) mi_Unpacker_130 s_Arr_fill ⟨Nat.le_of_ble_eq_true rfl, Nat.le_of_ble_eq_true rfl⟩ (Nat.le_of_ble_eq_true rfl) ⟨Nat.le_of_ble_eq_true rfl, Nat.le_of_ble_eq_true rfl⟩ ⟨rfl, rfl⟩ rfl d_Unpacker_takeLengthCodes_29 (fun σ7 => ?_)
    refine kw_iconst (v := 0) C d_Unpacker_takeLengthCodes_32 (by decide) ?_
    refine kw_istore_n (L' := [some (.ref t), some (.int x2), some (.int x5), some (.int 0), none]) C d_Unpacker_takeLengthCodes_33 (by decide) rfl ?_
    refine kw_wk (kw_l (α := Int32) (pc := 34) (Lj := fun x9 => [some (.ref t), some (.int x2), some (.int x5), some (.int x9), none]) (stj := fun x9 => []) (fun k8 hk8 x9 σ10 => ?_) n 0 σ7) ⟨Or.inr rfl, Or.inr rfl, Or.inr rfl, Or.inr rfl, Or.inl rfl, trivial⟩
    refine kw_iload_n C d_Unpacker_takeLengthCodes_34 rfl ?_
    refine kw_iload_n C d_Unpacker_takeLengthCodes_35 rfl ?_
    refine kw_iconst (v := 4) C d_Unpacker_takeLengthCodes_36 (by decide) ?_
    refine kw_iadd C d_Unpacker_takeLengthCodes_37 ?_
    refine kw_icmp_ge (tgt := 77) C d_Unpacker_takeLengthCodes_38 (by decide) ?_ ?_
    · refine kw_aload_n C d_Unpacker_takeLengthCodes_77 rfl ?_
      refine kw_getR C fi_Unpacker_23 rfl rfl ht d_Unpacker_takeLengthCodes_78 (fun o11 ho11 => ?_)
      refine kw_aload_n C d_Unpacker_takeLengthCodes_81 rfl ?_
      refine kw_getR C fi_Unpacker_32 rfl rfl ht d_Unpacker_takeLengthCodes_82 (fun o12 ho12 => ?_)
      refine kw_iconst (v := 0) C d_Unpacker_takeLengthCodes_85 (by decide) ?_
      refine kw_gets C (Cn := "PictureFile$Unpacker") (n := "ORDER") (dd := "[I") (o := 109) (List.mem_of_getElem? (i := 9) rfl) rfl gs_Unpacker_136 d_Unpacker_takeLengthCodes_86 ?_
      refine kw_alen C (Or.inr rfl) d_Unpacker_takeLengthCodes_89 ?_
      refine kw_callVv (cl' := 0) (sl' := 0) (As := [.ref o12, .int 0, .int (Int32.ofNat (mm_kd 109).2.2)]) C (c_Codes_assign hl n ids ho11 (Or.inl ⟨ho12.1, ho12.2.1⟩) 0 (Int32.ofNat (mm_kd 109).2.2) σ10) mi_Unpacker_54 v_Codes_assign ⟨_, _, rfl⟩ ho11 ⟨Nat.le_of_ble_eq_true rfl, Nat.le_of_ble_eq_true rfl⟩ (Nat.le_of_ble_eq_true rfl) ⟨Nat.le_of_ble_eq_true rfl, Nat.le_of_ble_eq_true rfl⟩ ⟨rfl, rfl⟩ rfl d_Unpacker_takeLengthCodes_90 (fun σ13 => ?_)
      refine kw_aload_n C d_Unpacker_takeLengthCodes_93 rfl ?_
      refine kw_getR C fi_Unpacker_23 rfl rfl ht d_Unpacker_takeLengthCodes_94 (fun o14 ho14 => ?_)
      refine kw_callVi (cl' := 0) (sl' := 0) (As := []) C (c_Codes_isFull hl n ids ho14  σ13) mi_Unpacker_121 v_Codes_isFull ⟨_, _, rfl⟩ ho14 ⟨Nat.le_of_ble_eq_true rfl, Nat.le_of_ble_eq_true rfl⟩ (Nat.le_of_ble_eq_true rfl) ⟨Nat.le_of_ble_eq_true rfl, Nat.le_of_ble_eq_true rfl⟩ ⟨rfl, rfl⟩ rfl d_Unpacker_takeLengthCodes_97 (fun x15 σ16 => ?_)
      refine kw_j (α := Int32) (pcj := 128) (Lj := fun x18 => [none, none, none, none, none]) (stj := fun x18 => [.int x18]) (fun x18 σ19 => ?_) (fun k17 hk17 => ?_)
      · exact kw_zret C Ce rfl (by simp) (fun _ _ => rfl) (Nat.le_of_ble_eq_true rfl) (Nat.le_of_ble_eq_true rfl) rfl d_Unpacker_takeLengthCodes_128
      · refine kw_j (α := Unit) (pcj := 123) (Lj := fun x21 => [none, none, none, none, none]) (stj := fun x21 => []) (fun x21 σ22 => ?_) (fun k20 hk20 => ?_)
        · refine kw_iconst (v := 1) C d_Unpacker_takeLengthCodes_123 (by decide) ?_
          refine kw_goto (tgt := 128) C d_Unpacker_takeLengthCodes_124 (by decide) ?_
          exact kw_wk (hk17 1 σ22) ⟨Or.inl rfl, Or.inl rfl, Or.inl rfl, Or.inl rfl, Or.inl rfl, trivial⟩
        · refine kw_if_ne (tgt := 123) C d_Unpacker_takeLengthCodes_100 (by decide) ?_ ?_
          · exact kw_wk (hk20 () σ16) ⟨Or.inl rfl, Or.inl rfl, Or.inl rfl, Or.inl rfl, Or.inl rfl, trivial⟩
          · refine kw_aload_n C d_Unpacker_takeLengthCodes_103 rfl ?_
            refine kw_getR C fi_Unpacker_40 rfl rfl ht d_Unpacker_takeLengthCodes_104 (fun o23 ho23 => ?_)
            refine kw_bipush (v := 24) C d_Unpacker_takeLengthCodes_107 (by decide) ?_
            refine kw_aload_n C d_Unpacker_takeLengthCodes_109 rfl ?_
            refine kw_getR C fi_Unpacker_36 rfl rfl ht d_Unpacker_takeLengthCodes_110 (fun o24 ho24 => ?_)
            refine kw_iload_n C d_Unpacker_takeLengthCodes_113 rfl ?_
            refine kw_callVi (cl' := 0) (sl' := 0) (As := [.int x5]) C (c_PackedBits_placeOf hl n ids ho24 x5 σ16) mi_Unpacker_82 v_PackedBits_placeOf ⟨_, _, rfl⟩ ho24 ⟨Nat.le_of_ble_eq_true rfl, Nat.le_of_ble_eq_true rfl⟩ (Nat.le_of_ble_eq_true rfl) ⟨Nat.le_of_ble_eq_true rfl, Nat.le_of_ble_eq_true rfl⟩ ⟨rfl, rfl⟩ rfl d_Unpacker_takeLengthCodes_114 (fun x25 σ26 => ?_)
            refine kw_callVi (cl' := 0) (sl' := 0) (As := [.int 24, .int x25]) C (c_Fault_refuse hl n ids ho23 24 x25 σ26) mi_Unpacker_85 v_Fault_refuse ⟨_, _, rfl⟩ ho23 ⟨Nat.le_of_ble_eq_true rfl, Nat.le_of_ble_eq_true rfl⟩ (Nat.le_of_ble_eq_true rfl) ⟨Nat.le_of_ble_eq_true rfl, Nat.le_of_ble_eq_true rfl⟩ ⟨rfl, rfl⟩ rfl d_Unpacker_takeLengthCodes_117 (fun x27 σ28 => ?_)
            refine kw_if_eq (tgt := 127) C d_Unpacker_takeLengthCodes_120 (by decide) ?_ ?_
            · refine kw_iconst (v := 0) C d_Unpacker_takeLengthCodes_127 (by decide) ?_
              exact kw_wk (hk17 0 σ28) ⟨Or.inl rfl, Or.inl rfl, Or.inl rfl, Or.inl rfl, Or.inl rfl, trivial⟩
            · exact kw_wk (hk20 () σ28) ⟨Or.inl rfl, Or.inl rfl, Or.inl rfl, Or.inl rfl, Or.inl rfl, trivial⟩
    · refine kw_aload_n C d_Unpacker_takeLengthCodes_41 rfl ?_
      refine kw_getR C fi_Unpacker_36 rfl rfl ht d_Unpacker_takeLengthCodes_42 (fun o29 ho29 => ?_)
      refine kw_iconst (v := 3) C d_Unpacker_takeLengthCodes_45 (by decide) ?_
      refine kw_callVi (cl' := 0) (sl' := 0) (As := [.int 3]) C (c_PackedBits_number hl n ids ho29 3 σ10) mi_Unpacker_70 v_PackedBits_number ⟨_, _, rfl⟩ ho29 ⟨Nat.le_of_ble_eq_true rfl, Nat.le_of_ble_eq_true rfl⟩ (Nat.le_of_ble_eq_true rfl) ⟨Nat.le_of_ble_eq_true rfl, Nat.le_of_ble_eq_true rfl⟩ ⟨rfl, rfl⟩ rfl d_Unpacker_takeLengthCodes_46 (fun x30 σ31 => ?_)
      refine kw_istore (L' := [some (.ref t), some (.int x2), some (.int x5), some (.int x9), some (.int x30)]) C d_Unpacker_takeLengthCodes_49 (by decide) rfl ?_
      refine kw_iload C d_Unpacker_takeLengthCodes_51 rfl ?_
      refine kw_iconst (v := -1) C d_Unpacker_takeLengthCodes_53 (by decide) ?_
      refine kw_icmp_ne (tgt := 59) C d_Unpacker_takeLengthCodes_54 (by decide) ?_ ?_
      · refine kw_aload_n C d_Unpacker_takeLengthCodes_59 rfl ?_
        refine kw_getR C fi_Unpacker_32 rfl rfl ht d_Unpacker_takeLengthCodes_60 (fun o32 ho32 => ?_)
        refine kw_gets C (Cn := "PictureFile$Unpacker") (n := "ORDER") (dd := "[I") (o := 109) (List.mem_of_getElem? (i := 9) rfl) rfl gs_Unpacker_136 d_Unpacker_takeLengthCodes_63 ?_
        refine kw_iload_n C d_Unpacker_takeLengthCodes_66 rfl ?_
        refine kw_iald C (Or.inr rfl) d_Unpacker_takeLengthCodes_67 ?_
        refine kw_iload C d_Unpacker_takeLengthCodes_68 rfl ?_
        refine kw_iast C ho32 d_Unpacker_takeLengthCodes_70 (fun σ33 => ?_)
        refine kw_iincL (L2 := fun x34 => [some (.ref t), some (.int x2), some (.int x5), some (.int x34), some (.int x30)]) C d_Unpacker_takeLengthCodes_71 (by decide) rfl (fun _ => rfl) (fun x34 => ?_)
        refine kw_goto (tgt := 34) C d_Unpacker_takeLengthCodes_74 (by decide) ?_
        exact kw_wk (hk8 x34 σ33) ⟨Or.inr rfl, Or.inr rfl, Or.inr rfl, Or.inr rfl, Or.inl rfl, trivial⟩
      · refine kw_iconst (v := 0) C d_Unpacker_takeLengthCodes_57 (by decide) ?_
        exact kw_zret C Ce rfl (by simp) (fun _ _ => rfl) (Nat.le_of_ble_eq_true rfl) (Nat.le_of_ble_eq_true rfl) rfl d_Unpacker_takeLengthCodes_58
  · refine kw_iconst (v := 0) C d_Unpacker_takeLengthCodes_14 (by decide) ?_
    exact kw_zret C Ce rfl (by simp) (fun _ _ => rfl) (Nat.le_of_ble_eq_true rfl) (Nat.le_of_ble_eq_true rfl) rfl d_Unpacker_takeLengthCodes_15
/-! Unpacker_takeLengths -/
def rm_Unpacker_takeLengths : Room := { frames := 2, cells := 0, slots := 0, locals := 51 }
def F_Unpacker_takeLengths (n : Nat) (t : Nat) (a0 : Int32) (σ : Mm) : Option (Int32 × Mm) :=
kf_l (α := Int32 × Int32) n (fun k1 x2 σ3 =>
kf_j (α := Unit) (fun x5 σ6 =>
kf_z 1 (some (1, σ6))) fun k4 =>
if a0 ≤ x2.2 then (
k4 () σ3) else (
if a0 ≤ x2.1 then (
k4 () σ3) else (
Option.bind (gR σ3 (64 * t + 0)) fun o7 =>
kf_let (gS σ3 (64 * o7 + 5) : Int32) fun x8 =>
Option.bind (gR σ3 (64 * t + 0)) fun o9 =>
Option.bind (gR σ3 (64 * t + 6)) fun o10 =>
kf_c2 (F_PackedBits_meaning n o9 o10 σ3) fun x11 σ12 =>
if x11 = (-1) then (
kf_z 0 (some (0, σ12))) else (
Option.bind (gR σ12 (64 * t + 0)) fun o13 =>
kf_j (α := Int32) (fun x15 σ16 =>
kf_c2 (F_PackedBits_number n o13 x15 σ16) fun x17 σ18 =>
if x17 = (-1) then (
kf_z 0 (some (0, σ18))) else (
kf_j (α := Int32) (fun x20 σ21 =>
kf_j (α := Unit) (fun x23 σ24 =>
Option.bind (gR σ24 (64 * t + 1)) fun o25 =>
Option.bind (gR σ24 (64 * t + 0)) fun o26 =>
kf_c2 (F_PackedBits_placeOf n o26 x8 σ24) fun x27 σ28 =>
kf_c2 (F_Fault_refuse n o25 24 x27 σ28) fun x29 σ30 =>
kf_z x29 (some (x29, σ30))) fun k22 =>
if (a0 - x2.1) < x20 then (
k22 () σ21) else (
kf_j (α := Unit) (fun x32 σ33 =>
kf_j (α := Int32) (fun x35 σ36 =>
kf_l (α := Int32 × Int32) n (fun k37 x38 σ39 =>
if x20 ≤ x38.2 then (
kf_let (x2.2 + Int32.ofInt 1) fun x40 =>
k1 (x38.1, x40) σ39) else (
Option.bind (gR σ39 (64 * t + 9)) fun o41 =>
kf_in x38.1 (mm_kd o41).2.2 <| kf_let (pB σ39 o41 x38.1.toNatClampNeg x35) fun σ42 =>
kf_let (x38.1 + Int32.ofInt 1) fun x43 =>
kf_let (x38.2 + Int32.ofInt 1) fun x44 =>
k37 (x43, x44) σ42)) (x2.1, 0) σ36) fun k34 =>
if 16 ≤ x11 then (
if x11 = 16 then (
Option.bind (gR σ33 (64 * t + 9)) fun o45 =>
kf_let (x2.1 - 1 : Int32) fun x46 =>
kf_in x46 (mm_kd o45).2.2 <|
k34 (gB σ33 o45 x46.toNatClampNeg) σ33) else (
k34 0 σ33)) else (
k34 x11 σ33)) fun k31 =>
if x11 = 16 then (
if x2.1 = 0 then (
k22 () σ21) else (
k31 () σ21)) else (
k31 () σ21))) fun k19 =>
if 16 ≤ x11 then (
if x11 = 18 then (
k19 ((11 : Int32) + x17) σ18) else (
k19 ((3 : Int32) + x17) σ18)) else (
k19 1 σ18))) fun k14 =>
if 16 ≤ x11 then (
if x11 = 16 then (
k14 2 σ12) else (
if x11 = 17 then (
k14 3 σ12) else (
k14 7 σ12))) else (
k14 0 σ12))))) (0, 0) σ
theorem d_Unpacker_takeLengths_0 : decode prog_11_method_9_code 0 = .ok (.iconst 0, 1) := by decide +kernel
theorem d_Unpacker_takeLengths_1 : decode prog_11_method_9_code 1 = .ok (.istore_n 2, 1) := by decide +kernel
theorem d_Unpacker_takeLengths_2 : decode prog_11_method_9_code 2 = .ok (.iconst 0, 1) := by decide +kernel
theorem d_Unpacker_takeLengths_3 : decode prog_11_method_9_code 3 = .ok (.istore_n 3, 1) := by decide +kernel
theorem d_Unpacker_takeLengths_4 : decode prog_11_method_9_code 4 = .ok (.iload_n 3, 1) := by decide +kernel
theorem d_Unpacker_takeLengths_5 : decode prog_11_method_9_code 5 = .ok (.iload_n 1, 1) := by decide +kernel
theorem d_Unpacker_takeLengths_6 : decode prog_11_method_9_code 6 = .ok (.if_icmp .ge 226, 3) := by decide +kernel
theorem d_Unpacker_takeLengths_9 : decode prog_11_method_9_code 9 = .ok (.iload_n 2, 1) := by decide +kernel
theorem d_Unpacker_takeLengths_10 : decode prog_11_method_9_code 10 = .ok (.iload_n 1, 1) := by decide +kernel
theorem d_Unpacker_takeLengths_11 : decode prog_11_method_9_code 11 = .ok (.if_icmp .ge 221, 3) := by decide +kernel
theorem d_Unpacker_takeLengths_14 : decode prog_11_method_9_code 14 = .ok (.aload_n 0, 1) := by decide +kernel
theorem d_Unpacker_takeLengths_15 : decode prog_11_method_9_code 15 = .ok (.getfield 36, 3) := by decide +kernel
theorem d_Unpacker_takeLengths_18 : decode prog_11_method_9_code 18 = .ok (.getfield 94, 3) := by decide +kernel
theorem d_Unpacker_takeLengths_21 : decode prog_11_method_9_code 21 = .ok (.istore 4, 2) := by decide +kernel
theorem d_Unpacker_takeLengths_23 : decode prog_11_method_9_code 23 = .ok (.aload_n 0, 1) := by decide +kernel
theorem d_Unpacker_takeLengths_24 : decode prog_11_method_9_code 24 = .ok (.getfield 36, 3) := by decide +kernel
theorem d_Unpacker_takeLengths_27 : decode prog_11_method_9_code 27 = .ok (.aload_n 0, 1) := by decide +kernel
theorem d_Unpacker_takeLengths_28 : decode prog_11_method_9_code 28 = .ok (.getfield 23, 3) := by decide +kernel
theorem d_Unpacker_takeLengths_31 : decode prog_11_method_9_code 31 = .ok (.invokevirtual 139, 3) := by decide +kernel
theorem d_Unpacker_takeLengths_34 : decode prog_11_method_9_code 34 = .ok (.istore 5, 2) := by decide +kernel
theorem d_Unpacker_takeLengths_36 : decode prog_11_method_9_code 36 = .ok (.iload 5, 2) := by decide +kernel
theorem d_Unpacker_takeLengths_38 : decode prog_11_method_9_code 38 = .ok (.iconst (-1), 1) := by decide +kernel
theorem d_Unpacker_takeLengths_39 : decode prog_11_method_9_code 39 = .ok (.if_icmp .ne 5, 3) := by decide +kernel
theorem d_Unpacker_takeLengths_42 : decode prog_11_method_9_code 42 = .ok (.iconst 0, 1) := by decide +kernel
theorem d_Unpacker_takeLengths_43 : decode prog_11_method_9_code 43 = .ok (.ireturn, 1) := by decide +kernel
theorem d_Unpacker_takeLengths_44 : decode prog_11_method_9_code 44 = .ok (.aload_n 0, 1) := by decide +kernel
theorem d_Unpacker_takeLengths_45 : decode prog_11_method_9_code 45 = .ok (.getfield 36, 3) := by decide +kernel
theorem d_Unpacker_takeLengths_48 : decode prog_11_method_9_code 48 = .ok (.iload 5, 2) := by decide +kernel
theorem d_Unpacker_takeLengths_50 : decode prog_11_method_9_code 50 = .ok (.bipush 16, 2) := by decide +kernel
theorem d_Unpacker_takeLengths_52 : decode prog_11_method_9_code 52 = .ok (.if_icmp .ge 7, 3) := by decide +kernel
theorem d_Unpacker_takeLengths_55 : decode prog_11_method_9_code 55 = .ok (.iconst 0, 1) := by decide +kernel
theorem d_Unpacker_takeLengths_56 : decode prog_11_method_9_code 56 = .ok (.goto 27, 3) := by decide +kernel
theorem d_Unpacker_takeLengths_59 : decode prog_11_method_9_code 59 = .ok (.iload 5, 2) := by decide +kernel
theorem d_Unpacker_takeLengths_61 : decode prog_11_method_9_code 61 = .ok (.bipush 16, 2) := by decide +kernel
theorem d_Unpacker_takeLengths_63 : decode prog_11_method_9_code 63 = .ok (.if_icmp .ne 7, 3) := by decide +kernel
theorem d_Unpacker_takeLengths_66 : decode prog_11_method_9_code 66 = .ok (.iconst 2, 1) := by decide +kernel
theorem d_Unpacker_takeLengths_67 : decode prog_11_method_9_code 67 = .ok (.goto 16, 3) := by decide +kernel
theorem d_Unpacker_takeLengths_70 : decode prog_11_method_9_code 70 = .ok (.iload 5, 2) := by decide +kernel
theorem d_Unpacker_takeLengths_72 : decode prog_11_method_9_code 72 = .ok (.bipush 17, 2) := by decide +kernel
theorem d_Unpacker_takeLengths_74 : decode prog_11_method_9_code 74 = .ok (.if_icmp .ne 7, 3) := by decide +kernel
theorem d_Unpacker_takeLengths_77 : decode prog_11_method_9_code 77 = .ok (.iconst 3, 1) := by decide +kernel
theorem d_Unpacker_takeLengths_78 : decode prog_11_method_9_code 78 = .ok (.goto 5, 3) := by decide +kernel
theorem d_Unpacker_takeLengths_81 : decode prog_11_method_9_code 81 = .ok (.bipush 7, 2) := by decide +kernel
theorem d_Unpacker_takeLengths_83 : decode prog_11_method_9_code 83 = .ok (.invokevirtual 70, 3) := by decide +kernel
theorem d_Unpacker_takeLengths_86 : decode prog_11_method_9_code 86 = .ok (.istore 6, 2) := by decide +kernel
theorem d_Unpacker_takeLengths_88 : decode prog_11_method_9_code 88 = .ok (.iload 6, 2) := by decide +kernel
theorem d_Unpacker_takeLengths_90 : decode prog_11_method_9_code 90 = .ok (.iconst (-1), 1) := by decide +kernel
theorem d_Unpacker_takeLengths_91 : decode prog_11_method_9_code 91 = .ok (.if_icmp .ne 5, 3) := by decide +kernel
theorem d_Unpacker_takeLengths_94 : decode prog_11_method_9_code 94 = .ok (.iconst 0, 1) := by decide +kernel
theorem d_Unpacker_takeLengths_95 : decode prog_11_method_9_code 95 = .ok (.ireturn, 1) := by decide +kernel
theorem d_Unpacker_takeLengths_96 : decode prog_11_method_9_code 96 = .ok (.iload 5, 2) := by decide +kernel
theorem d_Unpacker_takeLengths_98 : decode prog_11_method_9_code 98 = .ok (.bipush 16, 2) := by decide +kernel
theorem d_Unpacker_takeLengths_100 : decode prog_11_method_9_code 100 = .ok (.if_icmp .ge 7, 3) := by decide +kernel
theorem d_Unpacker_takeLengths_103 : decode prog_11_method_9_code 103 = .ok (.iconst 1, 1) := by decide +kernel
theorem d_Unpacker_takeLengths_104 : decode prog_11_method_9_code 104 = .ok (.goto 22, 3) := by decide +kernel
theorem d_Unpacker_takeLengths_107 : decode prog_11_method_9_code 107 = .ok (.iload 5, 2) := by decide +kernel
theorem d_Unpacker_takeLengths_109 : decode prog_11_method_9_code 109 = .ok (.bipush 18, 2) := by decide +kernel
theorem d_Unpacker_takeLengths_111 : decode prog_11_method_9_code 111 = .ok (.if_icmp .ne 11, 3) := by decide +kernel
theorem d_Unpacker_takeLengths_114 : decode prog_11_method_9_code 114 = .ok (.bipush 11, 2) := by decide +kernel
theorem d_Unpacker_takeLengths_116 : decode prog_11_method_9_code 116 = .ok (.iload 6, 2) := by decide +kernel
theorem d_Unpacker_takeLengths_118 : decode prog_11_method_9_code 118 = .ok (.iadd, 1) := by decide +kernel
theorem d_Unpacker_takeLengths_119 : decode prog_11_method_9_code 119 = .ok (.goto 7, 3) := by decide +kernel
theorem d_Unpacker_takeLengths_122 : decode prog_11_method_9_code 122 = .ok (.iconst 3, 1) := by decide +kernel
theorem d_Unpacker_takeLengths_123 : decode prog_11_method_9_code 123 = .ok (.iload 6, 2) := by decide +kernel
theorem d_Unpacker_takeLengths_125 : decode prog_11_method_9_code 125 = .ok (.iadd, 1) := by decide +kernel
theorem d_Unpacker_takeLengths_126 : decode prog_11_method_9_code 126 = .ok (.istore 7, 2) := by decide +kernel
theorem d_Unpacker_takeLengths_128 : decode prog_11_method_9_code 128 = .ok (.iload 7, 2) := by decide +kernel
theorem d_Unpacker_takeLengths_130 : decode prog_11_method_9_code 130 = .ok (.iload_n 1, 1) := by decide +kernel
theorem d_Unpacker_takeLengths_131 : decode prog_11_method_9_code 131 = .ok (.iload_n 2, 1) := by decide +kernel
theorem d_Unpacker_takeLengths_132 : decode prog_11_method_9_code 132 = .ok (.isub, 1) := by decide +kernel
theorem d_Unpacker_takeLengths_133 : decode prog_11_method_9_code 133 = .ok (.if_icmp .gt 14, 3) := by decide +kernel
theorem d_Unpacker_takeLengths_136 : decode prog_11_method_9_code 136 = .ok (.iload 5, 2) := by decide +kernel
theorem d_Unpacker_takeLengths_138 : decode prog_11_method_9_code 138 = .ok (.bipush 16, 2) := by decide +kernel
theorem d_Unpacker_takeLengths_140 : decode prog_11_method_9_code 140 = .ok (.if_icmp .ne 26, 3) := by decide +kernel
theorem d_Unpacker_takeLengths_143 : decode prog_11_method_9_code 143 = .ok (.iload_n 2, 1) := by decide +kernel
theorem d_Unpacker_takeLengths_144 : decode prog_11_method_9_code 144 = .ok (.ifCond .ne 22, 3) := by decide +kernel
theorem d_Unpacker_takeLengths_147 : decode prog_11_method_9_code 147 = .ok (.aload_n 0, 1) := by decide +kernel
theorem d_Unpacker_takeLengths_148 : decode prog_11_method_9_code 148 = .ok (.getfield 40, 3) := by decide +kernel
theorem d_Unpacker_takeLengths_151 : decode prog_11_method_9_code 151 = .ok (.bipush 24, 2) := by decide +kernel
theorem d_Unpacker_takeLengths_153 : decode prog_11_method_9_code 153 = .ok (.aload_n 0, 1) := by decide +kernel
theorem d_Unpacker_takeLengths_154 : decode prog_11_method_9_code 154 = .ok (.getfield 36, 3) := by decide +kernel
theorem d_Unpacker_takeLengths_157 : decode prog_11_method_9_code 157 = .ok (.iload 4, 2) := by decide +kernel
theorem d_Unpacker_takeLengths_159 : decode prog_11_method_9_code 159 = .ok (.invokevirtual 82, 3) := by decide +kernel
theorem d_Unpacker_takeLengths_162 : decode prog_11_method_9_code 162 = .ok (.invokevirtual 85, 3) := by decide +kernel
theorem d_Unpacker_takeLengths_165 : decode prog_11_method_9_code 165 = .ok (.ireturn, 1) := by decide +kernel
theorem d_Unpacker_takeLengths_166 : decode prog_11_method_9_code 166 = .ok (.iload 5, 2) := by decide +kernel
theorem d_Unpacker_takeLengths_168 : decode prog_11_method_9_code 168 = .ok (.bipush 16, 2) := by decide +kernel
theorem d_Unpacker_takeLengths_170 : decode prog_11_method_9_code 170 = .ok (.if_icmp .ge 8, 3) := by decide +kernel
theorem d_Unpacker_takeLengths_173 : decode prog_11_method_9_code 173 = .ok (.iload 5, 2) := by decide +kernel
theorem d_Unpacker_takeLengths_175 : decode prog_11_method_9_code 175 = .ok (.goto 22, 3) := by decide +kernel
theorem d_Unpacker_takeLengths_178 : decode prog_11_method_9_code 178 = .ok (.iload 5, 2) := by decide +kernel
theorem d_Unpacker_takeLengths_180 : decode prog_11_method_9_code 180 = .ok (.bipush 16, 2) := by decide +kernel
theorem d_Unpacker_takeLengths_182 : decode prog_11_method_9_code 182 = .ok (.if_icmp .ne 14, 3) := by decide +kernel
theorem d_Unpacker_takeLengths_185 : decode prog_11_method_9_code 185 = .ok (.aload_n 0, 1) := by decide +kernel
theorem d_Unpacker_takeLengths_186 : decode prog_11_method_9_code 186 = .ok (.getfield 32, 3) := by decide +kernel
theorem d_Unpacker_takeLengths_189 : decode prog_11_method_9_code 189 = .ok (.iload_n 2, 1) := by decide +kernel
theorem d_Unpacker_takeLengths_190 : decode prog_11_method_9_code 190 = .ok (.iconst 1, 1) := by decide +kernel
theorem d_Unpacker_takeLengths_191 : decode prog_11_method_9_code 191 = .ok (.isub, 1) := by decide +kernel
theorem d_Unpacker_takeLengths_192 : decode prog_11_method_9_code 192 = .ok (.iaload, 1) := by decide +kernel
theorem d_Unpacker_takeLengths_193 : decode prog_11_method_9_code 193 = .ok (.goto 4, 3) := by decide +kernel
theorem d_Unpacker_takeLengths_196 : decode prog_11_method_9_code 196 = .ok (.iconst 0, 1) := by decide +kernel
theorem d_Unpacker_takeLengths_197 : decode prog_11_method_9_code 197 = .ok (.istore 8, 2) := by decide +kernel
theorem d_Unpacker_takeLengths_199 : decode prog_11_method_9_code 199 = .ok (.iconst 0, 1) := by decide +kernel
theorem d_Unpacker_takeLengths_200 : decode prog_11_method_9_code 200 = .ok (.istore 9, 2) := by decide +kernel
theorem d_Unpacker_takeLengths_202 : decode prog_11_method_9_code 202 = .ok (.iload 9, 2) := by decide +kernel
theorem d_Unpacker_takeLengths_204 : decode prog_11_method_9_code 204 = .ok (.iload 7, 2) := by decide +kernel
theorem d_Unpacker_takeLengths_206 : decode prog_11_method_9_code 206 = .ok (.if_icmp .ge 20, 3) := by decide +kernel
theorem d_Unpacker_takeLengths_209 : decode prog_11_method_9_code 209 = .ok (.aload_n 0, 1) := by decide +kernel
theorem d_Unpacker_takeLengths_210 : decode prog_11_method_9_code 210 = .ok (.getfield 32, 3) := by decide +kernel
theorem d_Unpacker_takeLengths_213 : decode prog_11_method_9_code 213 = .ok (.iload_n 2, 1) := by decide +kernel
theorem d_Unpacker_takeLengths_214 : decode prog_11_method_9_code 214 = .ok (.iload 8, 2) := by decide +kernel
theorem d_Unpacker_takeLengths_216 : decode prog_11_method_9_code 216 = .ok (.iastore, 1) := by decide +kernel
theorem d_Unpacker_takeLengths_217 : decode prog_11_method_9_code 217 = .ok (.iinc 2 1, 3) := by decide +kernel
theorem d_Unpacker_takeLengths_220 : decode prog_11_method_9_code 220 = .ok (.iinc 9 1, 3) := by decide +kernel
theorem d_Unpacker_takeLengths_223 : decode prog_11_method_9_code 223 = .ok (.goto (-21), 3) := by decide +kernel
theorem d_Unpacker_takeLengths_226 : decode prog_11_method_9_code 226 = .ok (.iinc 3 1, 3) := by decide +kernel
theorem d_Unpacker_takeLengths_229 : decode prog_11_method_9_code 229 = .ok (.goto (-225), 3) := by decide +kernel
theorem d_Unpacker_takeLengths_232 : decode prog_11_method_9_code 232 = .ok (.iconst 1, 1) := by decide +kernel
theorem d_Unpacker_takeLengths_233 : decode prog_11_method_9_code 233 = .ok (.ireturn, 1) := by decide +kernel
set_option maxRecDepth 100000 in
set_option maxHeartbeats 4000000 in
theorem c_Unpacker_takeLengths {l0 : Launch} (hl : l0.stackTraces = false) (n : Nat) (ids : List Nat) {t : Nat} (ht : mm_ok ids t 1 6) (a0 : Int32) (σ : Mm) : kw_C l0 y_Unpacker_takeLengths (Cond.code y_Unpacker_takeLengths prog_11_method_9_code 10 (some .boolean) :: kw_Ts) rm_Unpacker_takeLengths kw_oi ids [] [.ref t, .int a0] σ (F_Unpacker_takeLengths n t a0 σ) := by
  refine kw_start (L0 := [some (.ref t), some (.int a0), none, none, none, none, none, none, none, none]) hl (by decide +kernel) (Nat.le_of_ble_eq_true rfl) rfl (fun Γ ad C Ce => ?_)
  unfold F_Unpacker_takeLengths
  refine kw_iconst (v := 0) C d_Unpacker_takeLengths_0 (by decide) ?_
  refine kw_istore_n (L' := [some (.ref t), some (.int a0), some (.int 0), none, none, none, none, none, none, none]) C d_Unpacker_takeLengths_1 (by decide) rfl ?_
  refine kw_iconst (v := 0) C d_Unpacker_takeLengths_2 (by decide) ?_
  refine kw_istore_n (L' := [some (.ref t), some (.int a0), some (.int 0), some (.int 0), none, none, none, none, none, none]) C d_Unpacker_takeLengths_3 (by decide) rfl ?_
  refine kw_wk (kw_l (α := Int32 × Int32) (pc := 4) (Lj := fun x2 => [some (.ref t), some (.int a0), some (.int x2.1), some (.int x2.2), none, none, none, none, none, none]) (stj := fun x2 => []) (fun k1 hk1 x2 σ3 => ?_) n (0, 0) σ) ⟨Or.inr rfl, Or.inr rfl, Or.inr rfl, Or.inr rfl, Or.inl rfl, Or.inl rfl, Or.inl rfl, Or.inl rfl, Or.inl rfl, Or.inl rfl, trivial⟩
  refine kw_iload_n C d_Unpacker_takeLengths_4 rfl ?_
  refine kw_iload_n C d_Unpacker_takeLengths_5 rfl ?_
  refine kw_j (α := Unit) (pcj := 232) (Lj := fun x5 => [none, none, none, none, none, none, none, none, none, none]) (stj := fun x5 => []) (fun x5 σ6 => ?_) (fun k4 hk4 => ?_)
  · refine kw_iconst (v := 1) C d_Unpacker_takeLengths_232 (by decide) ?_
    exact kw_zret C Ce rfl (by simp) (fun _ _ => rfl) (Nat.le_of_ble_eq_true rfl) (Nat.le_of_ble_eq_true rfl) rfl d_Unpacker_takeLengths_233
  · refine kw_icmp_ge (tgt := 232) C d_Unpacker_takeLengths_6 (by decide) ?_ ?_
    · exact kw_wk (hk4 () σ3) ⟨Or.inl rfl, Or.inl rfl, Or.inl rfl, Or.inl rfl, Or.inl rfl, Or.inl rfl, Or.inl rfl, Or.inl rfl, Or.inl rfl, Or.inl rfl, trivial⟩
    · refine kw_iload_n C d_Unpacker_takeLengths_9 rfl ?_
      refine kw_iload_n C d_Unpacker_takeLengths_10 rfl ?_
      refine kw_icmp_ge (tgt := 232) C d_Unpacker_takeLengths_11 (by decide) ?_ ?_
      · exact kw_wk (hk4 () σ3) ⟨Or.inl rfl, Or.inl rfl, Or.inl rfl, Or.inl rfl, Or.inl rfl, Or.inl rfl, Or.inl rfl, Or.inl rfl, Or.inl rfl, Or.inl rfl, trivial⟩
      · refine kw_aload_n C d_Unpacker_takeLengths_14 rfl ?_
        refine kw_getR C fi_Unpacker_36 rfl rfl ht d_Unpacker_takeLengths_15 (fun o7 ho7 => ?_)
        refine kw_getI C fi_Unpacker_94 (Or.inl rfl) ho7 d_Unpacker_takeLengths_18 ?_
        refine kw_leti (fun x8 => ?_)
        refine kw_istore (L' := [some (.ref t), some (.int a0), some (.int x2.1), some (.int x2.2), some (.int x8), none, none, none, none, none]) C d_Unpacker_takeLengths_21 (by decide) rfl ?_
        refine kw_aload_n C d_Unpacker_takeLengths_23 rfl ?_
        refine kw_getR C fi_Unpacker_36 rfl rfl ht d_Unpacker_takeLengths_24 (fun o9 ho9 => ?_)
        refine kw_aload_n C d_Unpacker_takeLengths_27 rfl ?_
        refine kw_getR C fi_Unpacker_23 rfl rfl ht d_Unpacker_takeLengths_28 (fun o10 ho10 => ?_)
        refine kw_callVi (cl' := 0) (sl' := 0) (As := [.ref o10]) C (c_PackedBits_meaning hl n ids ho9 ho10  σ3) mi_Unpacker_139 v_PackedBits_meaning ⟨_, _, rfl⟩ ho9 ⟨Nat.le_of_ble_eq_true rfl, Nat.le_of_ble_eq_true rfl⟩ (Nat.le_of_ble_eq_true rfl) ⟨Nat.le_of_ble_eq_true rfl, Nat.le_of_ble_eq_true rfl⟩ ⟨rfl, rfl⟩ rfl d_Unpacker_takeLengths_31 (fun x11 σ12 => ?_)
        refine kw_istore (L' := [some (.ref t), some (.int a0), some (.int x2.1), some (.int x2.2), some (.int x8), some (.int x11), none, none, none, none]) C d_Unpacker_takeLengths_34 (by decide) rfl ?_
        refine kw_iload C d_Unpacker_takeLengths_36 rfl ?_
        refine kw_iconst (v := -1) C d_Unpacker_takeLengths_38 (by decide) ?_
        refine kw_icmp_ne (tgt := 44) C d_Unpacker_takeLengths_39 (by decide) ?_ ?_
        · refine kw_aload_n C d_Unpacker_takeLengths_44 rfl ?_
          refine kw_getR C fi_Unpacker_36 rfl rfl ht d_Unpacker_takeLengths_45 (fun o13 ho13 => ?_)
          refine kw_iload C d_Unpacker_takeLengths_48 rfl ?_
          refine kw_bipush (v := 16) C d_Unpacker_takeLengths_50 (by decide) ?_
          refine kw_j (α := Int32) (pcj := 83) (Lj := fun x15 => [some (.ref t), some (.int a0), some (.int x2.1), some (.int x2.2), some (.int x8), some (.int x11), none, none, none, none]) (stj := fun x15 => [.int x15, .ref o13]) (fun x15 σ16 => ?_) (fun k14 hk14 => ?_)
          · refine kw_callVi (cl' := 0) (sl' := 0) (As := [.int x15]) C (c_PackedBits_number hl n ids ho13 x15 σ16) mi_Unpacker_70 v_PackedBits_number ⟨_, _, rfl⟩ ho13 ⟨Nat.le_of_ble_eq_true rfl, Nat.le_of_ble_eq_true rfl⟩ (Nat.le_of_ble_eq_true rfl) ⟨Nat.le_of_ble_eq_true rfl, Nat.le_of_ble_eq_true rfl⟩ ⟨rfl, rfl⟩ rfl d_Unpacker_takeLengths_83 (fun x17 σ18 => ?_)
            refine kw_istore (L' := [some (.ref t), some (.int a0), some (.int x2.1), some (.int x2.2), some (.int x8), some (.int x11), some (.int x17), none, none, none]) C d_Unpacker_takeLengths_86 (by decide) rfl ?_
            refine kw_iload C d_Unpacker_takeLengths_88 rfl ?_
            refine kw_iconst (v := -1) C d_Unpacker_takeLengths_90 (by decide) ?_
            refine kw_icmp_ne (tgt := 96) C d_Unpacker_takeLengths_91 (by decide) ?_ ?_
            · refine kw_iload C d_Unpacker_takeLengths_96 rfl ?_
              refine kw_bipush (v := 16) C d_Unpacker_takeLengths_98 (by decide) ?_
              refine kw_j (α := Int32) (pcj := 126) (Lj := fun x20 => [some (.ref t), some (.int a0), some (.int x2.1), some (.int x2.2), some (.int x8), some (.int x11), none, none, none, none]) (stj := fun x20 => [.int x20]) (fun x20 σ21 => ?_) (fun k19 hk19 => ?_)
              · refine kw_istore (L' := [some (.ref t), some (.int a0), some (.int x2.1), some (.int x2.2), some (.int x8), some (.int x11), none, some (.int x20), none, none]) C d_Unpacker_takeLengths_126 (by decide) rfl ?_
                refine kw_iload C d_Unpacker_takeLengths_128 rfl ?_
                refine kw_iload_n C d_Unpacker_takeLengths_130 rfl ?_
                refine kw_iload_n C d_Unpacker_takeLengths_131 rfl ?_
                refine kw_isub C d_Unpacker_takeLengths_132 ?_
                refine kw_j (α := Unit) (pcj := 147) (Lj := fun x23 => [some (.ref t), none, none, none, some (.int x8), none, none, none, none, none]) (stj := fun x23 => []) (fun x23 σ24 => ?_) (fun k22 hk22 => ?_)
                · refine kw_aload_n C d_Unpacker_takeLengths_147 rfl ?_
                  refine kw_getR C fi_Unpacker_40 rfl rfl ht d_Unpacker_takeLengths_148 (fun o25 ho25 => ?_)
                  refine kw_bipush (v := 24) C d_Unpacker_takeLengths_151 (by decide) ?_
                  refine kw_aload_n C d_Unpacker_takeLengths_153 rfl ?_
                  refine kw_getR C fi_Unpacker_36 rfl rfl ht d_Unpacker_takeLengths_154 (fun o26 ho26 => ?_)
                  refine kw_iload C d_Unpacker_takeLengths_157 rfl ?_
                  refine kw_callVi (cl' := 0) (sl' := 0) (As := [.int x8]) C (c_PackedBits_placeOf hl n ids ho26 x8 σ24) mi_Unpacker_82 v_PackedBits_placeOf ⟨_, _, rfl⟩ ho26 ⟨Nat.le_of_ble_eq_true rfl, Nat.le_of_ble_eq_true rfl⟩ (Nat.le_of_ble_eq_true rfl) ⟨Nat.le_of_ble_eq_true rfl, Nat.le_of_ble_eq_true rfl⟩ ⟨rfl, rfl⟩ rfl d_Unpacker_takeLengths_159 (fun x27 σ28 => ?_)
                  refine kw_callVi (cl' := 0) (sl' := 0) (As := [.int 24, .int x27]) C (c_Fault_refuse hl n ids ho25 24 x27 σ28) mi_Unpacker_85 v_Fault_refuse ⟨_, _, rfl⟩ ho25 ⟨Nat.le_of_ble_eq_true rfl, Nat.le_of_ble_eq_true rfl⟩ (Nat.le_of_ble_eq_true rfl) ⟨Nat.le_of_ble_eq_true rfl, Nat.le_of_ble_eq_true rfl⟩ ⟨rfl, rfl⟩ rfl d_Unpacker_takeLengths_162 (fun x29 σ30 => ?_)
                  exact kw_zret C Ce rfl (by simp) (fun _ _ => rfl) (Nat.le_of_ble_eq_true rfl) (Nat.le_of_ble_eq_true rfl) rfl d_Unpacker_takeLengths_165
                · refine kw_icmp_gt (tgt := 147) C d_Unpacker_takeLengths_133 (by decide) ?_ ?_
                  · exact kw_wk (hk22 () σ21) ⟨Or.inr rfl, Or.inl rfl, Or.inl rfl, Or.inl rfl, Or.inr rfl, Or.inl rfl, Or.inl rfl, Or.inl rfl, Or.inl rfl, Or.inl rfl, trivial⟩
                  · refine kw_iload C d_Unpacker_takeLengths_136 rfl ?_
                    refine kw_bipush (v := 16) C d_Unpacker_takeLengths_138 (by decide) ?_
                    refine kw_j (α := Unit) (pcj := 166) (Lj := fun x32 => [some (.ref t), some (.int a0), some (.int x2.1), some (.int x2.2), none, some (.int x11), none, some (.int x20), none, none]) (stj := fun x32 => []) (fun x32 σ33 => ?_) (fun k31 hk31 => ?_)
                    · refine kw_iload C d_Unpacker_takeLengths_166 rfl ?_
                      refine kw_bipush (v := 16) C d_Unpacker_takeLengths_168 (by decide) ?_
                      refine kw_j (α := Int32) (pcj := 197) (Lj := fun x35 => [some (.ref t), some (.int a0), some (.int x2.1), some (.int x2.2), none, none, none, some (.int x20), none, none]) (stj := fun x35 => [.int x35]) (fun x35 σ36 => ?_) (fun k34 hk34 => ?_)
                      · refine kw_istore (L' := [some (.ref t), some (.int a0), some (.int x2.1), some (.int x2.2), none, none, none, some (.int x20), some (.int x35), none]) C d_Unpacker_takeLengths_197 (by decide) rfl ?_
                        refine kw_iconst (v := 0) C d_Unpacker_takeLengths_199 (by decide) ?_
                        refine kw_istore (L' := [some (.ref t), some (.int a0), some (.int x2.1), some (.int x2.2), none, none, none, some (.int x20), some (.int x35), some (.int 0)]) C d_Unpacker_takeLengths_200 (by decide) rfl ?_
                        refine kw_wk (kw_l (α := Int32 × Int32) (pc := 202) (Lj := fun x38 => [some (.ref t), some (.int a0), some (.int x38.1), some (.int x2.2), none, none, none, some (.int x20), some (.int x35), some (.int x38.2)]) (stj := fun x38 => []) (fun k37 hk37 x38 σ39 => ?_) n (x2.1, 0) σ36) ⟨Or.inr rfl, Or.inr rfl, Or.inr rfl, Or.inr rfl, Or.inl rfl, Or.inl rfl, Or.inl rfl, Or.inr rfl, Or.inr rfl, Or.inr rfl, trivial⟩
                        refine kw_iload C d_Unpacker_takeLengths_202 rfl ?_
                        refine kw_iload C d_Unpacker_takeLengths_204 rfl ?_
                        refine kw_icmp_ge (tgt := 226) C d_Unpacker_takeLengths_206 (by decide) ?_ ?_
                        · refine kw_iincL (L2 := fun x40 => [some (.ref t), some (.int a0), some (.int x38.1), some (.int x40), none, none, none, some (.int x20), some (.int x35), some (.int x38.2)]) C d_Unpacker_takeLengths_226 (by decide) rfl (fun _ => rfl) (fun x40 => ?_)
                          refine kw_goto (tgt := 4) C d_Unpacker_takeLengths_229 (by decide) ?_
                          exact kw_wk (hk1 (x38.1, x40) σ39) ⟨Or.inr rfl, Or.inr rfl, Or.inr rfl, Or.inr rfl, Or.inl rfl, Or.inl rfl, Or.inl rfl, Or.inl rfl, Or.inl rfl, Or.inl rfl, trivial⟩
                        · refine kw_aload_n C d_Unpacker_takeLengths_209 rfl ?_
                          refine kw_getR C fi_Unpacker_32 rfl rfl ht d_Unpacker_takeLengths_210 (fun o41 ho41 => ?_)
                          refine kw_iload_n C d_Unpacker_takeLengths_213 rfl ?_
                          refine kw_iload C d_Unpacker_takeLengths_214 rfl ?_
                          refine kw_iast C ho41 d_Unpacker_takeLengths_216 (fun σ42 => ?_)
                          refine kw_iincL (L2 := fun x43 => [some (.ref t), some (.int a0), some (.int x43), some (.int x2.2), none, none, none, some (.int x20), some (.int x35), some (.int x38.2)]) C d_Unpacker_takeLengths_217 (by decide) rfl (fun _ => rfl) (fun x43 => ?_)
                          refine kw_iincL (L2 := fun x44 => [some (.ref t), some (.int a0), some (.int x43), some (.int x2.2), none, none, none, some (.int x20), some (.int x35), some (.int x44)]) C d_Unpacker_takeLengths_220 (by decide) rfl (fun _ => rfl) (fun x44 => ?_)
                          refine kw_goto (tgt := 202) C d_Unpacker_takeLengths_223 (by decide) ?_
                          exact kw_wk (hk37 (x43, x44) σ42) ⟨Or.inr rfl, Or.inr rfl, Or.inr rfl, Or.inr rfl, Or.inl rfl, Or.inl rfl, Or.inl rfl, Or.inr rfl, Or.inr rfl, Or.inr rfl, trivial⟩
                      · refine kw_icmp_ge (tgt := 178) C d_Unpacker_takeLengths_170 (by decide) ?_ ?_
                        · refine kw_iload C d_Unpacker_takeLengths_178 rfl ?_
                          refine kw_bipush (v := 16) C d_Unpacker_takeLengths_180 (by decide) ?_
                          refine kw_icmp_ne (tgt := 196) C d_Unpacker_takeLengths_182 (by decide) ?_ ?_
                          · refine kw_iconst (v := 0) C d_Unpacker_takeLengths_196 (by decide) ?_
                            exact kw_wk (hk34 0 σ33) ⟨Or.inr rfl, Or.inr rfl, Or.inr rfl, Or.inr rfl, Or.inl rfl, Or.inl rfl, Or.inl rfl, Or.inr rfl, Or.inl rfl, Or.inl rfl, trivial⟩
                          · refine kw_aload_n C d_Unpacker_takeLengths_185 rfl ?_
                            refine kw_getR C fi_Unpacker_32 rfl rfl ht d_Unpacker_takeLengths_186 (fun o45 ho45 => ?_)
                            refine kw_iload_n C d_Unpacker_takeLengths_189 rfl ?_
                            refine kw_iconst (v := 1) C d_Unpacker_takeLengths_190 (by decide) ?_
                            refine kw_isub C d_Unpacker_takeLengths_191 ?_
                            refine kw_leti (fun x46 => ?_)
                            refine kw_iald C (Or.inl ⟨ho45.1, ho45.2.1⟩) d_Unpacker_takeLengths_192 ?_
                            refine kw_goto (tgt := 197) C d_Unpacker_takeLengths_193 (by decide) ?_
                            exact kw_wk (hk34 (gB σ33 o45 x46.toNatClampNeg) σ33) ⟨Or.inr rfl, Or.inr rfl, Or.inr rfl, Or.inr rfl, Or.inl rfl, Or.inl rfl, Or.inl rfl, Or.inr rfl, Or.inl rfl, Or.inl rfl, trivial⟩
                        · refine kw_iload C d_Unpacker_takeLengths_173 rfl ?_
                          refine kw_goto (tgt := 197) C d_Unpacker_takeLengths_175 (by decide) ?_
                          exact kw_wk (hk34 x11 σ33) ⟨Or.inr rfl, Or.inr rfl, Or.inr rfl, Or.inr rfl, Or.inl rfl, Or.inl rfl, Or.inl rfl, Or.inr rfl, Or.inl rfl, Or.inl rfl, trivial⟩
                    · refine kw_icmp_ne (tgt := 166) C d_Unpacker_takeLengths_140 (by decide) ?_ ?_
                      · exact kw_wk (hk31 () σ21) ⟨Or.inr rfl, Or.inr rfl, Or.inr rfl, Or.inr rfl, Or.inl rfl, Or.inr rfl, Or.inl rfl, Or.inr rfl, Or.inl rfl, Or.inl rfl, trivial⟩
                      · refine kw_iload_n C d_Unpacker_takeLengths_143 rfl ?_
                        refine kw_if_ne (tgt := 166) C d_Unpacker_takeLengths_144 (by decide) ?_ ?_
                        · exact kw_wk (hk31 () σ21) ⟨Or.inr rfl, Or.inr rfl, Or.inr rfl, Or.inr rfl, Or.inl rfl, Or.inr rfl, Or.inl rfl, Or.inr rfl, Or.inl rfl, Or.inl rfl, trivial⟩
                        · exact kw_wk (hk22 () σ21) ⟨Or.inr rfl, Or.inl rfl, Or.inl rfl, Or.inl rfl, Or.inr rfl, Or.inl rfl, Or.inl rfl, Or.inl rfl, Or.inl rfl, Or.inl rfl, trivial⟩
              · refine kw_icmp_ge (tgt := 107) C d_Unpacker_takeLengths_100 (by decide) ?_ ?_
                · refine kw_iload C d_Unpacker_takeLengths_107 rfl ?_
                  refine kw_bipush (v := 18) C d_Unpacker_takeLengths_109 (by decide) ?_
                  refine kw_icmp_ne (tgt := 122) C d_Unpacker_takeLengths_111 (by decide) ?_ ?_
                  · refine kw_iconst (v := 3) C d_Unpacker_takeLengths_122 (by decide) ?_
                    refine kw_iload C d_Unpacker_takeLengths_123 rfl ?_
                    refine kw_iadd C d_Unpacker_takeLengths_125 ?_
                    exact kw_wk (hk19 ((3 : Int32) + x17) σ18) ⟨Or.inr rfl, Or.inr rfl, Or.inr rfl, Or.inr rfl, Or.inr rfl, Or.inr rfl, Or.inl rfl, Or.inl rfl, Or.inl rfl, Or.inl rfl, trivial⟩
                  · refine kw_bipush (v := 11) C d_Unpacker_takeLengths_114 (by decide) ?_
                    refine kw_iload C d_Unpacker_takeLengths_116 rfl ?_
                    refine kw_iadd C d_Unpacker_takeLengths_118 ?_
                    refine kw_goto (tgt := 126) C d_Unpacker_takeLengths_119 (by decide) ?_
                    exact kw_wk (hk19 ((11 : Int32) + x17) σ18) ⟨Or.inr rfl, Or.inr rfl, Or.inr rfl, Or.inr rfl, Or.inr rfl, Or.inr rfl, Or.inl rfl, Or.inl rfl, Or.inl rfl, Or.inl rfl, trivial⟩
                · refine kw_iconst (v := 1) C d_Unpacker_takeLengths_103 (by decide) ?_
                  refine kw_goto (tgt := 126) C d_Unpacker_takeLengths_104 (by decide) ?_
                  exact kw_wk (hk19 1 σ18) ⟨Or.inr rfl, Or.inr rfl, Or.inr rfl, Or.inr rfl, Or.inr rfl, Or.inr rfl, Or.inl rfl, Or.inl rfl, Or.inl rfl, Or.inl rfl, trivial⟩
            · refine kw_iconst (v := 0) C d_Unpacker_takeLengths_94 (by decide) ?_
              exact kw_zret C Ce rfl (by simp) (fun _ _ => rfl) (Nat.le_of_ble_eq_true rfl) (Nat.le_of_ble_eq_true rfl) rfl d_Unpacker_takeLengths_95
          · refine kw_icmp_ge (tgt := 59) C d_Unpacker_takeLengths_52 (by decide) ?_ ?_
            · refine kw_iload C d_Unpacker_takeLengths_59 rfl ?_
              refine kw_bipush (v := 16) C d_Unpacker_takeLengths_61 (by decide) ?_
              refine kw_icmp_ne (tgt := 70) C d_Unpacker_takeLengths_63 (by decide) ?_ ?_
              · refine kw_iload C d_Unpacker_takeLengths_70 rfl ?_
                refine kw_bipush (v := 17) C d_Unpacker_takeLengths_72 (by decide) ?_
                refine kw_icmp_ne (tgt := 81) C d_Unpacker_takeLengths_74 (by decide) ?_ ?_
                · refine kw_bipush (v := 7) C d_Unpacker_takeLengths_81 (by decide) ?_
                  exact kw_wk (hk14 7 σ12) ⟨Or.inr rfl, Or.inr rfl, Or.inr rfl, Or.inr rfl, Or.inr rfl, Or.inr rfl, Or.inl rfl, Or.inl rfl, Or.inl rfl, Or.inl rfl, trivial⟩
                · refine kw_iconst (v := 3) C d_Unpacker_takeLengths_77 (by decide) ?_
                  refine kw_goto (tgt := 83) C d_Unpacker_takeLengths_78 (by decide) ?_
                  exact kw_wk (hk14 3 σ12) ⟨Or.inr rfl, Or.inr rfl, Or.inr rfl, Or.inr rfl, Or.inr rfl, Or.inr rfl, Or.inl rfl, Or.inl rfl, Or.inl rfl, Or.inl rfl, trivial⟩
              · refine kw_iconst (v := 2) C d_Unpacker_takeLengths_66 (by decide) ?_
                refine kw_goto (tgt := 83) C d_Unpacker_takeLengths_67 (by decide) ?_
                exact kw_wk (hk14 2 σ12) ⟨Or.inr rfl, Or.inr rfl, Or.inr rfl, Or.inr rfl, Or.inr rfl, Or.inr rfl, Or.inl rfl, Or.inl rfl, Or.inl rfl, Or.inl rfl, trivial⟩
            · refine kw_iconst (v := 0) C d_Unpacker_takeLengths_55 (by decide) ?_
              refine kw_goto (tgt := 83) C d_Unpacker_takeLengths_56 (by decide) ?_
              exact kw_wk (hk14 0 σ12) ⟨Or.inr rfl, Or.inr rfl, Or.inr rfl, Or.inr rfl, Or.inr rfl, Or.inr rfl, Or.inl rfl, Or.inl rfl, Or.inl rfl, Or.inl rfl, trivial⟩
        · refine kw_iconst (v := 0) C d_Unpacker_takeLengths_42 (by decide) ?_
          exact kw_zret C Ce rfl (by simp) (fun _ _ => rfl) (Nat.le_of_ble_eq_true rfl) (Nat.le_of_ble_eq_true rfl) rfl d_Unpacker_takeLengths_43
/-! Codes_isOneBit -/
def rm_Codes_isOneBit : Room := { frames := 0, cells := 0, slots := 0, locals := 0 }
def F_Codes_isOneBit (n : Nat) (t : Nat) (σ : Mm) : Option (Int32 × Mm) :=
kf_j (α := Int32) (fun x2 σ3 =>
kf_z x2 (some (x2, σ3))) fun k1 =>
kf_j (α := Unit) (fun x5 σ6 =>
k1 0 σ6) fun k4 =>
if (gS σ (64 * t + 3)) = 1 then (
Option.bind (gR σ (64 * t + 0)) fun o7 =>
kf_in 1 (mm_kd o7).2.2 <|
if (gB σ o7 (1 : Int32).toNatClampNeg) = 1 then (
k1 1 σ) else (
k4 () σ)) else (
k4 () σ)
theorem d_Codes_isOneBit_0 : decode prog_2_method_4_code 0 = .ok (.aload_n 0, 1) := by decide +kernel
theorem d_Codes_isOneBit_1 : decode prog_2_method_4_code 1 = .ok (.getfield 25, 3) := by decide +kernel
theorem d_Codes_isOneBit_4 : decode prog_2_method_4_code 4 = .ok (.iconst 1, 1) := by decide +kernel
theorem d_Codes_isOneBit_5 : decode prog_2_method_4_code 5 = .ok (.if_icmp .ne 17, 3) := by decide +kernel
theorem d_Codes_isOneBit_8 : decode prog_2_method_4_code 8 = .ok (.aload_n 0, 1) := by decide +kernel
theorem d_Codes_isOneBit_9 : decode prog_2_method_4_code 9 = .ok (.getfield 9, 3) := by decide +kernel
theorem d_Codes_isOneBit_12 : decode prog_2_method_4_code 12 = .ok (.iconst 1, 1) := by decide +kernel
theorem d_Codes_isOneBit_13 : decode prog_2_method_4_code 13 = .ok (.iaload, 1) := by decide +kernel
theorem d_Codes_isOneBit_14 : decode prog_2_method_4_code 14 = .ok (.iconst 1, 1) := by decide +kernel
theorem d_Codes_isOneBit_15 : decode prog_2_method_4_code 15 = .ok (.if_icmp .ne 7, 3) := by decide +kernel
theorem d_Codes_isOneBit_18 : decode prog_2_method_4_code 18 = .ok (.iconst 1, 1) := by decide +kernel
theorem d_Codes_isOneBit_19 : decode prog_2_method_4_code 19 = .ok (.goto 4, 3) := by decide +kernel
theorem d_Codes_isOneBit_22 : decode prog_2_method_4_code 22 = .ok (.iconst 0, 1) := by decide +kernel
theorem d_Codes_isOneBit_23 : decode prog_2_method_4_code 23 = .ok (.ireturn, 1) := by decide +kernel
set_option maxRecDepth 100000 in
set_option maxHeartbeats 4000000 in
theorem c_Codes_isOneBit {l0 : Launch} (hl : l0.stackTraces = false) (n : Nat) (ids : List Nat) {t : Nat} (ht : mm_ok ids t 1 7)  (σ : Mm) : kw_C l0 y_Codes_isOneBit (Cond.code y_Codes_isOneBit prog_2_method_4_code 1 (some .boolean) :: kw_Ts) rm_Codes_isOneBit kw_oi ids [] [.ref t] σ (F_Codes_isOneBit n t σ) := by
  refine kw_start (L0 := [some (.ref t)]) hl (by decide +kernel) (Nat.le_of_ble_eq_true rfl) rfl (fun Γ ad C Ce => ?_)
  unfold F_Codes_isOneBit
  refine kw_aload_n C d_Codes_isOneBit_0 rfl ?_
  refine kw_getI C fi_Codes_25 (Or.inl rfl) ht d_Codes_isOneBit_1 ?_
  refine kw_iconst (v := 1) C d_Codes_isOneBit_4 (by decide) ?_
  refine kw_j (α := Int32) (pcj := 23) (Lj := fun x2 => [none]) (stj := fun x2 => [.int x2]) (fun x2 σ3 => ?_) (fun k1 hk1 => ?_)
  · exact kw_zret C Ce rfl (by simp) (fun _ _ => rfl) (Nat.le_of_ble_eq_true rfl) (Nat.le_of_ble_eq_true rfl) rfl d_Codes_isOneBit_23
  · refine kw_j (α := Unit) (pcj := 22) (Lj := fun x5 => [none]) (stj := fun x5 => []) (fun x5 σ6 => ?_) (fun k4 hk4 => ?_)
    · refine kw_iconst (v := 0) C d_Codes_isOneBit_22 (by decide) ?_
      exact kw_wk (hk1 0 σ6) ⟨Or.inl rfl, trivial⟩
    · refine kw_icmp_ne (tgt := 22) C d_Codes_isOneBit_5 (by decide) ?_ ?_
      · exact kw_wk (hk4 () σ) ⟨Or.inl rfl, trivial⟩
      · refine kw_aload_n C d_Codes_isOneBit_8 rfl ?_
        refine kw_getR C fi_Codes_9 rfl rfl ht d_Codes_isOneBit_9 (fun o7 ho7 => ?_)
        refine kw_iconst (v := 1) C d_Codes_isOneBit_12 (by decide) ?_
        refine kw_iald C (Or.inl ⟨ho7.1, ho7.2.1⟩) d_Codes_isOneBit_13 ?_
        refine kw_iconst (v := 1) C d_Codes_isOneBit_14 (by decide) ?_
        refine kw_icmp_ne (tgt := 22) C d_Codes_isOneBit_15 (by decide) ?_ ?_
        · exact kw_wk (hk4 () σ) ⟨Or.inl rfl, trivial⟩
        · refine kw_iconst (v := 1) C d_Codes_isOneBit_18 (by decide) ?_
          refine kw_goto (tgt := 23) C d_Codes_isOneBit_19 (by decide) ?_
          exact kw_wk (hk1 1 σ) ⟨Or.inl rfl, trivial⟩
/-! Unpacker_takeCodes -/
def rm_Unpacker_takeCodes : Room := { frames := 3, cells := 0, slots := 0, locals := 80 }
def F_Unpacker_takeCodes (n : Nat) (t : Nat) (σ : Mm) : Option (Int32 × Mm) :=
Option.bind (gR σ (64 * t + 0)) fun o1 =>
kf_let (gS σ (64 * o1 + 5) : Int32) fun x2 =>
Option.bind (gR σ (64 * t + 0)) fun o3 =>
kf_c2 (F_PackedBits_number n o3 5 σ) fun x4 σ5 =>
if x4 = (-1) then (
kf_z 0 (some (0, σ5))) else (
kf_let (x4 + Int32.ofInt 257) fun x6 =>
if x6 ≤ 286 then (
Option.bind (gR σ5 (64 * t + 0)) fun o7 =>
kf_let (gS σ5 (64 * o7 + 5) : Int32) fun x8 =>
Option.bind (gR σ5 (64 * t + 0)) fun o9 =>
kf_c2 (F_PackedBits_number n o9 5 σ5) fun x10 σ11 =>
if x10 = (-1) then (
kf_z 0 (some (0, σ11))) else (
kf_let (x10 + Int32.ofInt 1) fun x12 =>
if x12 ≤ 30 then (
kf_c2 (F_Unpacker_takeLengthCodes n t σ11) fun x13 σ14 =>
kf_j (α := Unit) (fun x16 σ17 =>
kf_z 0 (some (0, σ17))) fun k15 =>
if x13 = 0 then (
k15 () σ14) else (
kf_c2 (F_Unpacker_takeLengths n t (x6 + x12) σ14) fun x18 σ19 =>
if x18 = 0 then (
k15 () σ19) else (
Option.bind (gR σ19 (64 * t + 7)) fun o20 =>
Option.bind (gR σ19 (64 * t + 9)) fun o21 =>
Option.bind (F_Codes_assign n o20 o21 0 x6 σ19) fun σ22 =>
Option.bind (gR σ22 (64 * t + 8)) fun o23 =>
Option.bind (gR σ22 (64 * t + 9)) fun o24 =>
Option.bind (F_Codes_assign n o23 o24 x6 x12 σ22) fun σ25 =>
Option.bind (gR σ25 (64 * t + 7)) fun o26 =>
kf_c2 (F_Codes_isFull n o26 σ25) fun x27 σ28 =>
kf_j (α := Int32) (fun x30 σ31 =>
kf_j (α := Int32) (fun x33 σ34 =>
kf_z x33 (some (x33, σ34))) fun k32 =>
kf_j (α := Unit) (fun x36 σ37 =>
k32 1 σ37) fun k35 =>
if x30 = 0 then (
Option.bind (gR σ31 (64 * t + 1)) fun o38 =>
Option.bind (gR σ31 (64 * t + 0)) fun o39 =>
Option.bind (gR σ31 (64 * t + 0)) fun o40 =>
kf_c2 (F_PackedBits_placeOf n o39 (gS σ31 (64 * o40 + 5)) σ31) fun x41 σ42 =>
kf_c2 (F_Fault_refuse n o38 24 x41 σ42) fun x43 σ44 =>
if x43 = 0 then (
k32 0 σ44) else (
k35 () σ44)) else (
k35 () σ31)) fun k29 =>
kf_j (α := Unit) (fun x46 σ47 =>
k29 0 σ47) fun k45 =>
if x27 = 0 then (
k45 () σ28) else (
Option.bind (gR σ28 (64 * t + 9)) fun o48 =>
kf_in 256 (mm_kd o48).2.2 <|
if (gB σ28 o48 (256 : Int32).toNatClampNeg) ≤ 0 then (
k45 () σ28) else (
Option.bind (gR σ28 (64 * t + 8)) fun o49 =>
kf_c2 (F_Codes_isFull n o49 σ28) fun x50 σ51 =>
kf_j (α := Unit) (fun x53 σ54 =>
k29 1 σ54) fun k52 =>
if x50 = 0 then (
Option.bind (gR σ51 (64 * t + 8)) fun o55 =>
kf_c2 (F_Codes_isOneBit n o55 σ51) fun x56 σ57 =>
if x56 = 0 then (
Option.bind (gR σ57 (64 * t + 8)) fun o58 =>
if (gS σ57 (64 * o58 + 3)) = 0 then (
k52 () σ57) else (
k45 () σ57)) else (
k52 () σ57)) else (
k52 () σ51)))))) else (
Option.bind (gR σ11 (64 * t + 1)) fun o59 =>
Option.bind (gR σ11 (64 * t + 0)) fun o60 =>
kf_c2 (F_PackedBits_placeOf n o60 x8 σ11) fun x61 σ62 =>
kf_c2 (F_Fault_refuse n o59 24 x61 σ62) fun x63 σ64 =>
kf_z x63 (some (x63, σ64))))) else (
Option.bind (gR σ5 (64 * t + 1)) fun o65 =>
Option.bind (gR σ5 (64 * t + 0)) fun o66 =>
kf_c2 (F_PackedBits_placeOf n o66 x2 σ5) fun x67 σ68 =>
kf_c2 (F_Fault_refuse n o65 24 x67 σ68) fun x69 σ70 =>
kf_z x69 (some (x69, σ70))))
theorem d_Unpacker_takeCodes_0 : decode prog_11_method_7_code 0 = .ok (.aload_n 0, 1) := by decide +kernel
theorem d_Unpacker_takeCodes_1 : decode prog_11_method_7_code 1 = .ok (.getfield 36, 3) := by decide +kernel
theorem d_Unpacker_takeCodes_4 : decode prog_11_method_7_code 4 = .ok (.getfield 94, 3) := by decide +kernel
theorem d_Unpacker_takeCodes_7 : decode prog_11_method_7_code 7 = .ok (.istore_n 1, 1) := by decide +kernel
theorem d_Unpacker_takeCodes_8 : decode prog_11_method_7_code 8 = .ok (.aload_n 0, 1) := by decide +kernel
theorem d_Unpacker_takeCodes_9 : decode prog_11_method_7_code 9 = .ok (.getfield 36, 3) := by decide +kernel
theorem d_Unpacker_takeCodes_12 : decode prog_11_method_7_code 12 = .ok (.iconst 5, 1) := by decide +kernel
theorem d_Unpacker_takeCodes_13 : decode prog_11_method_7_code 13 = .ok (.invokevirtual 70, 3) := by decide +kernel
theorem d_Unpacker_takeCodes_16 : decode prog_11_method_7_code 16 = .ok (.istore_n 2, 1) := by decide +kernel
theorem d_Unpacker_takeCodes_17 : decode prog_11_method_7_code 17 = .ok (.iload_n 2, 1) := by decide +kernel
theorem d_Unpacker_takeCodes_18 : decode prog_11_method_7_code 18 = .ok (.iconst (-1), 1) := by decide +kernel
theorem d_Unpacker_takeCodes_19 : decode prog_11_method_7_code 19 = .ok (.if_icmp .ne 5, 3) := by decide +kernel
theorem d_Unpacker_takeCodes_22 : decode prog_11_method_7_code 22 = .ok (.iconst 0, 1) := by decide +kernel
theorem d_Unpacker_takeCodes_23 : decode prog_11_method_7_code 23 = .ok (.ireturn, 1) := by decide +kernel
theorem d_Unpacker_takeCodes_24 : decode prog_11_method_7_code 24 = .ok (.iinc 2 257, 6) := by decide +kernel
theorem d_Unpacker_takeCodes_30 : decode prog_11_method_7_code 30 = .ok (.iload_n 2, 1) := by decide +kernel
theorem d_Unpacker_takeCodes_31 : decode prog_11_method_7_code 31 = .ok (.sipush 286, 3) := by decide +kernel
theorem d_Unpacker_takeCodes_34 : decode prog_11_method_7_code 34 = .ok (.if_icmp .le 21, 3) := by decide +kernel
theorem d_Unpacker_takeCodes_37 : decode prog_11_method_7_code 37 = .ok (.aload_n 0, 1) := by decide +kernel
theorem d_Unpacker_takeCodes_38 : decode prog_11_method_7_code 38 = .ok (.getfield 40, 3) := by decide +kernel
theorem d_Unpacker_takeCodes_41 : decode prog_11_method_7_code 41 = .ok (.bipush 24, 2) := by decide +kernel
theorem d_Unpacker_takeCodes_43 : decode prog_11_method_7_code 43 = .ok (.aload_n 0, 1) := by decide +kernel
theorem d_Unpacker_takeCodes_44 : decode prog_11_method_7_code 44 = .ok (.getfield 36, 3) := by decide +kernel
theorem d_Unpacker_takeCodes_47 : decode prog_11_method_7_code 47 = .ok (.iload_n 1, 1) := by decide +kernel
theorem d_Unpacker_takeCodes_48 : decode prog_11_method_7_code 48 = .ok (.invokevirtual 82, 3) := by decide +kernel
theorem d_Unpacker_takeCodes_51 : decode prog_11_method_7_code 51 = .ok (.invokevirtual 85, 3) := by decide +kernel
theorem d_Unpacker_takeCodes_54 : decode prog_11_method_7_code 54 = .ok (.ireturn, 1) := by decide +kernel
theorem d_Unpacker_takeCodes_55 : decode prog_11_method_7_code 55 = .ok (.aload_n 0, 1) := by decide +kernel
theorem d_Unpacker_takeCodes_56 : decode prog_11_method_7_code 56 = .ok (.getfield 36, 3) := by decide +kernel
theorem d_Unpacker_takeCodes_59 : decode prog_11_method_7_code 59 = .ok (.getfield 94, 3) := by decide +kernel
theorem d_Unpacker_takeCodes_62 : decode prog_11_method_7_code 62 = .ok (.istore_n 1, 1) := by decide +kernel
theorem d_Unpacker_takeCodes_63 : decode prog_11_method_7_code 63 = .ok (.aload_n 0, 1) := by decide +kernel
theorem d_Unpacker_takeCodes_64 : decode prog_11_method_7_code 64 = .ok (.getfield 36, 3) := by decide +kernel
theorem d_Unpacker_takeCodes_67 : decode prog_11_method_7_code 67 = .ok (.iconst 5, 1) := by decide +kernel
theorem d_Unpacker_takeCodes_68 : decode prog_11_method_7_code 68 = .ok (.invokevirtual 70, 3) := by decide +kernel
theorem d_Unpacker_takeCodes_71 : decode prog_11_method_7_code 71 = .ok (.istore_n 3, 1) := by decide +kernel
theorem d_Unpacker_takeCodes_72 : decode prog_11_method_7_code 72 = .ok (.iload_n 3, 1) := by decide +kernel
theorem d_Unpacker_takeCodes_73 : decode prog_11_method_7_code 73 = .ok (.iconst (-1), 1) := by decide +kernel
theorem d_Unpacker_takeCodes_74 : decode prog_11_method_7_code 74 = .ok (.if_icmp .ne 5, 3) := by decide +kernel
theorem d_Unpacker_takeCodes_77 : decode prog_11_method_7_code 77 = .ok (.iconst 0, 1) := by decide +kernel
theorem d_Unpacker_takeCodes_78 : decode prog_11_method_7_code 78 = .ok (.ireturn, 1) := by decide +kernel
theorem d_Unpacker_takeCodes_79 : decode prog_11_method_7_code 79 = .ok (.iinc 3 1, 3) := by decide +kernel
theorem d_Unpacker_takeCodes_82 : decode prog_11_method_7_code 82 = .ok (.iload_n 3, 1) := by decide +kernel
theorem d_Unpacker_takeCodes_83 : decode prog_11_method_7_code 83 = .ok (.bipush 30, 2) := by decide +kernel
theorem d_Unpacker_takeCodes_85 : decode prog_11_method_7_code 85 = .ok (.if_icmp .le 21, 3) := by decide +kernel
theorem d_Unpacker_takeCodes_88 : decode prog_11_method_7_code 88 = .ok (.aload_n 0, 1) := by decide +kernel
theorem d_Unpacker_takeCodes_89 : decode prog_11_method_7_code 89 = .ok (.getfield 40, 3) := by decide +kernel
theorem d_Unpacker_takeCodes_92 : decode prog_11_method_7_code 92 = .ok (.bipush 24, 2) := by decide +kernel
theorem d_Unpacker_takeCodes_94 : decode prog_11_method_7_code 94 = .ok (.aload_n 0, 1) := by decide +kernel
theorem d_Unpacker_takeCodes_95 : decode prog_11_method_7_code 95 = .ok (.getfield 36, 3) := by decide +kernel
theorem d_Unpacker_takeCodes_98 : decode prog_11_method_7_code 98 = .ok (.iload_n 1, 1) := by decide +kernel
theorem d_Unpacker_takeCodes_99 : decode prog_11_method_7_code 99 = .ok (.invokevirtual 82, 3) := by decide +kernel
theorem d_Unpacker_takeCodes_102 : decode prog_11_method_7_code 102 = .ok (.invokevirtual 85, 3) := by decide +kernel
theorem d_Unpacker_takeCodes_105 : decode prog_11_method_7_code 105 = .ok (.ireturn, 1) := by decide +kernel
theorem d_Unpacker_takeCodes_106 : decode prog_11_method_7_code 106 = .ok (.aload_n 0, 1) := by decide +kernel
theorem d_Unpacker_takeCodes_107 : decode prog_11_method_7_code 107 = .ok (.invokevirtual 114, 3) := by decide +kernel
theorem d_Unpacker_takeCodes_110 : decode prog_11_method_7_code 110 = .ok (.ifCond .eq 13, 3) := by decide +kernel
theorem d_Unpacker_takeCodes_113 : decode prog_11_method_7_code 113 = .ok (.aload_n 0, 1) := by decide +kernel
theorem d_Unpacker_takeCodes_114 : decode prog_11_method_7_code 114 = .ok (.iload_n 2, 1) := by decide +kernel
theorem d_Unpacker_takeCodes_115 : decode prog_11_method_7_code 115 = .ok (.iload_n 3, 1) := by decide +kernel
theorem d_Unpacker_takeCodes_116 : decode prog_11_method_7_code 116 = .ok (.iadd, 1) := by decide +kernel
theorem d_Unpacker_takeCodes_117 : decode prog_11_method_7_code 117 = .ok (.invokevirtual 117, 3) := by decide +kernel
theorem d_Unpacker_takeCodes_120 : decode prog_11_method_7_code 120 = .ok (.ifCond .ne 5, 3) := by decide +kernel
theorem d_Unpacker_takeCodes_123 : decode prog_11_method_7_code 123 = .ok (.iconst 0, 1) := by decide +kernel
theorem d_Unpacker_takeCodes_124 : decode prog_11_method_7_code 124 = .ok (.ireturn, 1) := by decide +kernel
theorem d_Unpacker_takeCodes_125 : decode prog_11_method_7_code 125 = .ok (.aload_n 0, 1) := by decide +kernel
theorem d_Unpacker_takeCodes_126 : decode prog_11_method_7_code 126 = .ok (.getfield 26, 3) := by decide +kernel
theorem d_Unpacker_takeCodes_129 : decode prog_11_method_7_code 129 = .ok (.aload_n 0, 1) := by decide +kernel
theorem d_Unpacker_takeCodes_130 : decode prog_11_method_7_code 130 = .ok (.getfield 32, 3) := by decide +kernel
theorem d_Unpacker_takeCodes_133 : decode prog_11_method_7_code 133 = .ok (.iconst 0, 1) := by decide +kernel
theorem d_Unpacker_takeCodes_134 : decode prog_11_method_7_code 134 = .ok (.iload_n 2, 1) := by decide +kernel
theorem d_Unpacker_takeCodes_135 : decode prog_11_method_7_code 135 = .ok (.invokevirtual 54, 3) := by decide +kernel
theorem d_Unpacker_takeCodes_138 : decode prog_11_method_7_code 138 = .ok (.aload_n 0, 1) := by decide +kernel
theorem d_Unpacker_takeCodes_139 : decode prog_11_method_7_code 139 = .ok (.getfield 29, 3) := by decide +kernel
theorem d_Unpacker_takeCodes_142 : decode prog_11_method_7_code 142 = .ok (.aload_n 0, 1) := by decide +kernel
theorem d_Unpacker_takeCodes_143 : decode prog_11_method_7_code 143 = .ok (.getfield 32, 3) := by decide +kernel
theorem d_Unpacker_takeCodes_146 : decode prog_11_method_7_code 146 = .ok (.iload_n 2, 1) := by decide +kernel
theorem d_Unpacker_takeCodes_147 : decode prog_11_method_7_code 147 = .ok (.iload_n 3, 1) := by decide +kernel
theorem d_Unpacker_takeCodes_148 : decode prog_11_method_7_code 148 = .ok (.invokevirtual 54, 3) := by decide +kernel
theorem d_Unpacker_takeCodes_151 : decode prog_11_method_7_code 151 = .ok (.aload_n 0, 1) := by decide +kernel
theorem d_Unpacker_takeCodes_152 : decode prog_11_method_7_code 152 = .ok (.getfield 26, 3) := by decide +kernel
theorem d_Unpacker_takeCodes_155 : decode prog_11_method_7_code 155 = .ok (.invokevirtual 121, 3) := by decide +kernel
theorem d_Unpacker_takeCodes_158 : decode prog_11_method_7_code 158 = .ok (.ifCond .eq 48, 3) := by decide +kernel
theorem d_Unpacker_takeCodes_161 : decode prog_11_method_7_code 161 = .ok (.aload_n 0, 1) := by decide +kernel
theorem d_Unpacker_takeCodes_162 : decode prog_11_method_7_code 162 = .ok (.getfield 32, 3) := by decide +kernel
theorem d_Unpacker_takeCodes_165 : decode prog_11_method_7_code 165 = .ok (.sipush 256, 3) := by decide +kernel
theorem d_Unpacker_takeCodes_168 : decode prog_11_method_7_code 168 = .ok (.iaload, 1) := by decide +kernel
theorem d_Unpacker_takeCodes_169 : decode prog_11_method_7_code 169 = .ok (.ifCond .le 37, 3) := by decide +kernel
theorem d_Unpacker_takeCodes_172 : decode prog_11_method_7_code 172 = .ok (.aload_n 0, 1) := by decide +kernel
theorem d_Unpacker_takeCodes_173 : decode prog_11_method_7_code 173 = .ok (.getfield 29, 3) := by decide +kernel
theorem d_Unpacker_takeCodes_176 : decode prog_11_method_7_code 176 = .ok (.invokevirtual 121, 3) := by decide +kernel
theorem d_Unpacker_takeCodes_179 : decode prog_11_method_7_code 179 = .ok (.ifCond .ne 23, 3) := by decide +kernel
theorem d_Unpacker_takeCodes_182 : decode prog_11_method_7_code 182 = .ok (.aload_n 0, 1) := by decide +kernel
theorem d_Unpacker_takeCodes_183 : decode prog_11_method_7_code 183 = .ok (.getfield 29, 3) := by decide +kernel
theorem d_Unpacker_takeCodes_186 : decode prog_11_method_7_code 186 = .ok (.invokevirtual 124, 3) := by decide +kernel
theorem d_Unpacker_takeCodes_189 : decode prog_11_method_7_code 189 = .ok (.ifCond .ne 13, 3) := by decide +kernel
theorem d_Unpacker_takeCodes_192 : decode prog_11_method_7_code 192 = .ok (.aload_n 0, 1) := by decide +kernel
theorem d_Unpacker_takeCodes_193 : decode prog_11_method_7_code 193 = .ok (.getfield 29, 3) := by decide +kernel
theorem d_Unpacker_takeCodes_196 : decode prog_11_method_7_code 196 = .ok (.getfield 127, 3) := by decide +kernel
theorem d_Unpacker_takeCodes_199 : decode prog_11_method_7_code 199 = .ok (.ifCond .ne 7, 3) := by decide +kernel
theorem d_Unpacker_takeCodes_202 : decode prog_11_method_7_code 202 = .ok (.iconst 1, 1) := by decide +kernel
theorem d_Unpacker_takeCodes_203 : decode prog_11_method_7_code 203 = .ok (.goto 4, 3) := by decide +kernel
theorem d_Unpacker_takeCodes_206 : decode prog_11_method_7_code 206 = .ok (.iconst 0, 1) := by decide +kernel
theorem d_Unpacker_takeCodes_207 : decode prog_11_method_7_code 207 = .ok (.istore 4, 2) := by decide +kernel
theorem d_Unpacker_takeCodes_209 : decode prog_11_method_7_code 209 = .ok (.iload 4, 2) := by decide +kernel
theorem d_Unpacker_takeCodes_211 : decode prog_11_method_7_code 211 = .ok (.ifCond .ne 29, 3) := by decide +kernel
theorem d_Unpacker_takeCodes_214 : decode prog_11_method_7_code 214 = .ok (.aload_n 0, 1) := by decide +kernel
theorem d_Unpacker_takeCodes_215 : decode prog_11_method_7_code 215 = .ok (.getfield 40, 3) := by decide +kernel
theorem d_Unpacker_takeCodes_218 : decode prog_11_method_7_code 218 = .ok (.bipush 24, 2) := by decide +kernel
theorem d_Unpacker_takeCodes_220 : decode prog_11_method_7_code 220 = .ok (.aload_n 0, 1) := by decide +kernel
theorem d_Unpacker_takeCodes_221 : decode prog_11_method_7_code 221 = .ok (.getfield 36, 3) := by decide +kernel
theorem d_Unpacker_takeCodes_224 : decode prog_11_method_7_code 224 = .ok (.aload_n 0, 1) := by decide +kernel
theorem d_Unpacker_takeCodes_225 : decode prog_11_method_7_code 225 = .ok (.getfield 36, 3) := by decide +kernel
theorem d_Unpacker_takeCodes_228 : decode prog_11_method_7_code 228 = .ok (.getfield 94, 3) := by decide +kernel
theorem d_Unpacker_takeCodes_231 : decode prog_11_method_7_code 231 = .ok (.invokevirtual 82, 3) := by decide +kernel
theorem d_Unpacker_takeCodes_234 : decode prog_11_method_7_code 234 = .ok (.invokevirtual 85, 3) := by decide +kernel
theorem d_Unpacker_takeCodes_237 : decode prog_11_method_7_code 237 = .ok (.ifCond .eq 7, 3) := by decide +kernel
theorem d_Unpacker_takeCodes_240 : decode prog_11_method_7_code 240 = .ok (.iconst 1, 1) := by decide +kernel
theorem d_Unpacker_takeCodes_241 : decode prog_11_method_7_code 241 = .ok (.goto 4, 3) := by decide +kernel
theorem d_Unpacker_takeCodes_244 : decode prog_11_method_7_code 244 = .ok (.iconst 0, 1) := by decide +kernel
theorem d_Unpacker_takeCodes_245 : decode prog_11_method_7_code 245 = .ok (.ireturn, 1) := by decide +kernel
set_option maxRecDepth 100000 in
set_option maxHeartbeats 4000000 in
theorem c_Unpacker_takeCodes {l0 : Launch} (hl : l0.stackTraces = false) (n : Nat) (ids : List Nat) {t : Nat} (ht : mm_ok ids t 1 6)  (σ : Mm) : kw_C l0 y_Unpacker_takeCodes (Cond.code y_Unpacker_takeCodes prog_11_method_7_code 5 (some .boolean) :: kw_Ts) rm_Unpacker_takeCodes kw_oi ids [] [.ref t] σ (F_Unpacker_takeCodes n t σ) := by
  refine kw_start (L0 := [some (.ref t), none, none, none, none]) hl (by decide +kernel) (Nat.le_of_ble_eq_true rfl) rfl (fun Γ ad C Ce => ?_)
  unfold F_Unpacker_takeCodes
  refine kw_aload_n C d_Unpacker_takeCodes_0 rfl ?_
  refine kw_getR C fi_Unpacker_36 rfl rfl ht d_Unpacker_takeCodes_1 (fun o1 ho1 => ?_)
  refine kw_getI C fi_Unpacker_94 (Or.inl rfl) ho1 d_Unpacker_takeCodes_4 ?_
  refine kw_leti (fun x2 => ?_)
  refine kw_istore_n (L' := [some (.ref t), some (.int x2), none, none, none]) C d_Unpacker_takeCodes_7 (by decide) rfl ?_
  refine kw_aload_n C d_Unpacker_takeCodes_8 rfl ?_
  refine kw_getR C fi_Unpacker_36 rfl rfl ht d_Unpacker_takeCodes_9 (fun o3 ho3 => ?_)
  refine kw_iconst (v := 5) C d_Unpacker_takeCodes_12 (by decide) ?_
  refine kw_callVi (cl' := 0) (sl' := 0) (As := [.int 5]) C (c_PackedBits_number hl n ids ho3 5 σ) mi_Unpacker_70 v_PackedBits_number ⟨_, _, rfl⟩ ho3 ⟨Nat.le_of_ble_eq_true rfl, Nat.le_of_ble_eq_true rfl⟩ (Nat.le_of_ble_eq_true rfl) ⟨Nat.le_of_ble_eq_true rfl, Nat.le_of_ble_eq_true rfl⟩ ⟨rfl, rfl⟩ rfl d_Unpacker_takeCodes_13 (fun x4 σ5 => ?_)
  refine kw_istore_n (L' := [some (.ref t), some (.int x2), some (.int x4), none, none]) C d_Unpacker_takeCodes_16 (by decide) rfl ?_
  refine kw_iload_n C d_Unpacker_takeCodes_17 rfl ?_
  refine kw_iconst (v := -1) C d_Unpacker_takeCodes_18 (by decide) ?_
  refine kw_icmp_ne (tgt := 24) C d_Unpacker_takeCodes_19 (by decide) ?_ ?_
  · refine kw_iincW (L2 := fun x6 => [some (.ref t), some (.int x2), some (.int x6), none, none]) C d_Unpacker_takeCodes_24 (by decide) rfl (fun _ => rfl) (fun x6 => ?_)
    refine kw_iload_n C d_Unpacker_takeCodes_30 rfl ?_
    refine kw_sipush (v := 286) C d_Unpacker_takeCodes_31 (by decide) ?_
    refine kw_icmp_le (tgt := 55) C d_Unpacker_takeCodes_34 (by decide) ?_ ?_
    · refine kw_aload_n C d_Unpacker_takeCodes_55 rfl ?_
      refine kw_getR C fi_Unpacker_36 rfl rfl ht d_Unpacker_takeCodes_56 (fun o7 ho7 => ?_)
      refine kw_getI C fi_Unpacker_94 (Or.inl rfl) ho7 d_Unpacker_takeCodes_59 ?_
      refine kw_leti (fun x8 => ?_)
      refine kw_istore_n (L' := [some (.ref t), some (.int x8), some (.int x6), none, none]) C d_Unpacker_takeCodes_62 (by decide) rfl ?_
      refine kw_aload_n C d_Unpacker_takeCodes_63 rfl ?_
      refine kw_getR C fi_Unpacker_36 rfl rfl ht d_Unpacker_takeCodes_64 (fun o9 ho9 => ?_)
      refine kw_iconst (v := 5) C d_Unpacker_takeCodes_67 (by decide) ?_
      refine kw_callVi (cl' := 0) (sl' := 0) (As := [.int 5]) C (c_PackedBits_number hl n ids ho9 5 σ5) mi_Unpacker_70 v_PackedBits_number ⟨_, _, rfl⟩ ho9 ⟨Nat.le_of_ble_eq_true rfl, Nat.le_of_ble_eq_true rfl⟩ (Nat.le_of_ble_eq_true rfl) ⟨Nat.le_of_ble_eq_true rfl, Nat.le_of_ble_eq_true rfl⟩ ⟨rfl, rfl⟩ rfl d_Unpacker_takeCodes_68 (fun x10 σ11 => ?_)
      refine kw_istore_n (L' := [some (.ref t), some (.int x8), some (.int x6), some (.int x10), none]) C d_Unpacker_takeCodes_71 (by decide) rfl ?_
      refine kw_iload_n C d_Unpacker_takeCodes_72 rfl ?_
      refine kw_iconst (v := -1) C d_Unpacker_takeCodes_73 (by decide) ?_
      refine kw_icmp_ne (tgt := 79) C d_Unpacker_takeCodes_74 (by decide) ?_ ?_
      · refine kw_iincL (L2 := fun x12 => [some (.ref t), some (.int x8), some (.int x6), some (.int x12), none]) C d_Unpacker_takeCodes_79 (by decide) rfl (fun _ => rfl) (fun x12 => ?_)
        refine kw_iload_n C d_Unpacker_takeCodes_82 rfl ?_
        refine kw_bipush (v := 30) C d_Unpacker_takeCodes_83 (by decide) ?_
        refine kw_icmp_le (tgt := 106) C d_Unpacker_takeCodes_85 (by decide) ?_ ?_
        · refine kw_aload_n C d_Unpacker_takeCodes_106 rfl ?_
          refine kw_callVi (cl' := 0) (sl' := 0) (As := []) C (c_Unpacker_takeLengthCodes hl n ids ht  σ11) mi_Unpacker_114 v_Unpacker_takeLengthCodes ⟨_, _, rfl⟩ ht ⟨Nat.le_of_ble_eq_true rfl, Nat.le_of_ble_eq_true rfl⟩ (Nat.le_of_ble_eq_true rfl) ⟨Nat.le_of_ble_eq_true rfl, Nat.le_of_ble_eq_true rfl⟩ ⟨rfl, rfl⟩ rfl d_Unpacker_takeCodes_107 (fun x13 σ14 => ?_)
          refine kw_j (α := Unit) (pcj := 123) (Lj := fun x16 => [none, none, none, none, none]) (stj := fun x16 => []) (fun x16 σ17 => ?_) (fun k15 hk15 => ?_)
          · refine kw_iconst (v := 0) C d_Unpacker_takeCodes_123 (by decide) ?_
            exact kw_zret C Ce rfl (by simp) (fun _ _ => rfl) (Nat.le_of_ble_eq_true rfl) (Nat.le_of_ble_eq_true rfl) rfl d_Unpacker_takeCodes_124
          · refine kw_if_eq (tgt := 123) C d_Unpacker_takeCodes_110 (by decide) ?_ ?_
            · exact kw_wk (hk15 () σ14) ⟨Or.inl rfl, Or.inl rfl, Or.inl rfl, Or.inl rfl, Or.inl rfl, trivial⟩
            · refine kw_aload_n C d_Unpacker_takeCodes_113 rfl ?_
              refine kw_iload_n C d_Unpacker_takeCodes_114 rfl ?_
              refine kw_iload_n C d_Unpacker_takeCodes_115 rfl ?_
              refine kw_iadd C d_Unpacker_takeCodes_116 ?_
              refine kw_callVi (cl' := 0) (sl' := 0) (As := [.int (x6 + x12)]) C (c_Unpacker_takeLengths hl n ids ht (x6 + x12) σ14) mi_Unpacker_117 v_Unpacker_takeLengths ⟨_, _, rfl⟩ ht ⟨Nat.le_of_ble_eq_true rfl, Nat.le_of_ble_eq_true rfl⟩ (Nat.le_of_ble_eq_true rfl) ⟨Nat.le_of_ble_eq_true rfl, Nat.le_of_ble_eq_true rfl⟩ ⟨rfl, rfl⟩ rfl d_Unpacker_takeCodes_117 (fun x18 σ19 => ?_)
              refine kw_if_ne (tgt := 125) C d_Unpacker_takeCodes_120 (by decide) ?_ ?_
              · refine kw_aload_n C d_Unpacker_takeCodes_125 rfl ?_
                refine kw_getR C fi_Unpacker_26 rfl rfl ht d_Unpacker_takeCodes_126 (fun o20 ho20 => ?_)
                refine kw_aload_n C d_Unpacker_takeCodes_129 rfl ?_
                refine kw_getR C fi_Unpacker_32 rfl rfl ht d_Unpacker_takeCodes_130 (fun o21 ho21 => ?_)
                refine kw_iconst (v := 0) C d_Unpacker_takeCodes_133 (by decide) ?_
                refine kw_iload_n C d_Unpacker_takeCodes_134 rfl ?_
                refine kw_callVv (cl' := 0) (sl' := 0) (As := [.ref o21, .int 0, .int x6]) C (c_Codes_assign hl n ids ho20 (Or.inl ⟨ho21.1, ho21.2.1⟩) 0 x6 σ19) mi_Unpacker_54 v_Codes_assign ⟨_, _, rfl⟩ ho20 ⟨Nat.le_of_ble_eq_true rfl, Nat.le_of_ble_eq_true rfl⟩ (Nat.le_of_ble_eq_true rfl) ⟨Nat.le_of_ble_eq_true rfl, Nat.le_of_ble_eq_true rfl⟩ ⟨rfl, rfl⟩ rfl d_Unpacker_takeCodes_135 (fun σ22 => ?_)
                refine kw_aload_n C d_Unpacker_takeCodes_138 rfl ?_
                refine kw_getR C fi_Unpacker_29 rfl rfl ht d_Unpacker_takeCodes_139 (fun o23 ho23 => ?_)
                refine kw_aload_n C d_Unpacker_takeCodes_142 rfl ?_
                refine kw_getR C fi_Unpacker_32 rfl rfl ht d_Unpacker_takeCodes_143 (fun o24 ho24 => ?_)
                refine kw_iload_n C d_Unpacker_takeCodes_146 rfl ?_
                refine kw_iload_n C d_Unpacker_takeCodes_147 rfl ?_
                refine kw_callVv (cl' := 0) (sl' := 0) (As := [.ref o24, .int x6, .int x12]) C (c_Codes_assign hl n ids ho23 (Or.inl ⟨ho24.1, ho24.2.1⟩) x6 x12 σ22) mi_Unpacker_54 v_Codes_assign ⟨_, _, rfl⟩ ho23 ⟨Nat.le_of_ble_eq_true rfl, Nat.le_of_ble_eq_true rfl⟩ (Nat.le_of_ble_eq_true rfl) ⟨Nat.le_of_ble_eq_true rfl, Nat.le_of_ble_eq_true rfl⟩ ⟨rfl, rfl⟩ rfl d_Unpacker_takeCodes_148 (fun σ25 => ?_)
                refine kw_aload_n C d_Unpacker_takeCodes_151 rfl ?_
                refine kw_getR C fi_Unpacker_26 rfl rfl ht d_Unpacker_takeCodes_152 (fun o26 ho26 => ?_)
                refine kw_callVi (cl' := 0) (sl' := 0) (As := []) C (c_Codes_isFull hl n ids ho26  σ25) mi_Unpacker_121 v_Codes_isFull ⟨_, _, rfl⟩ ho26 ⟨Nat.le_of_ble_eq_true rfl, Nat.le_of_ble_eq_true rfl⟩ (Nat.le_of_ble_eq_true rfl) ⟨Nat.le_of_ble_eq_true rfl, Nat.le_of_ble_eq_true rfl⟩ ⟨rfl, rfl⟩ rfl d_Unpacker_takeCodes_155 (fun x27 σ28 => ?_)
                refine kw_j (α := Int32) (pcj := 207) (Lj := fun x30 => [some (.ref t), none, none, none, none]) (stj := fun x30 => [.int x30]) (fun x30 σ31 => ?_) (fun k29 hk29 => ?_)
                · refine kw_istore (L' := [some (.ref t), none, none, none, some (.int x30)]) C d_Unpacker_takeCodes_207 (by decide) rfl ?_
                  refine kw_iload C d_Unpacker_takeCodes_209 rfl ?_
                  refine kw_j (α := Int32) (pcj := 245) (Lj := fun x33 => [none, none, none, none, none]) (stj := fun x33 => [.int x33]) (fun x33 σ34 => ?_) (fun k32 hk32 => ?_)
                  · exact kw_zret C Ce rfl (by simp) (fun _ _ => rfl) (Nat.le_of_ble_eq_true rfl) (Nat.le_of_ble_eq_true rfl) rfl d_Unpacker_takeCodes_245
                  · refine kw_j (α := Unit) (pcj := 240) (Lj := fun x36 => [none, none, none, none, none]) (stj := fun x36 => []) (fun x36 σ37 => ?_) (fun k35 hk35 => ?_)
                    · refine kw_iconst (v := 1) C d_Unpacker_takeCodes_240 (by decide) ?_
                      refine kw_goto (tgt := 245) C d_Unpacker_takeCodes_241 (by decide) ?_
                      exact kw_wk (hk32 1 σ37) ⟨Or.inl rfl, Or.inl rfl, Or.inl rfl, Or.inl rfl, Or.inl rfl, trivial⟩
                    · refine kw_if_ne (tgt := 240) C d_Unpacker_takeCodes_211 (by decide) ?_ ?_
                      · exact kw_wk (hk35 () σ31) ⟨Or.inl rfl, Or.inl rfl, Or.inl rfl, Or.inl rfl, Or.inl rfl, trivial⟩
                      · refine kw_aload_n C d_Unpacker_takeCodes_214 rfl ?_
                        refine kw_getR C fi_Unpacker_40 rfl rfl ht d_Unpacker_takeCodes_215 (fun o38 ho38 => ?_)
                        refine kw_bipush (v := 24) C d_Unpacker_takeCodes_218 (by decide) ?_
                        refine kw_aload_n C d_Unpacker_takeCodes_220 rfl ?_
                        refine kw_getR C fi_Unpacker_36 rfl rfl ht d_Unpacker_takeCodes_221 (fun o39 ho39 => ?_)
                        refine kw_aload_n C d_Unpacker_takeCodes_224 rfl ?_
                        refine kw_getR C fi_Unpacker_36 rfl rfl ht d_Unpacker_takeCodes_225 (fun o40 ho40 => ?_)
                        refine kw_getI C fi_Unpacker_94 (Or.inl rfl) ho40 d_Unpacker_takeCodes_228 ?_
                        refine kw_callVi (cl' := 0) (sl' := 0) (As := [.int (gS σ31 (64 * o40 + 5))]) C (c_PackedBits_placeOf hl n ids ho39 (gS σ31 (64 * o40 + 5)) σ31) mi_Unpacker_82 v_PackedBits_placeOf ⟨_, _, rfl⟩ ho39 ⟨Nat.le_of_ble_eq_true rfl, Nat.le_of_ble_eq_true rfl⟩ (Nat.le_of_ble_eq_true rfl) ⟨Nat.le_of_ble_eq_true rfl, Nat.le_of_ble_eq_true rfl⟩ ⟨rfl, rfl⟩ rfl d_Unpacker_takeCodes_231 (fun x41 σ42 => ?_)
                        refine kw_callVi (cl' := 0) (sl' := 0) (As := [.int 24, .int x41]) C (c_Fault_refuse hl n ids ho38 24 x41 σ42) mi_Unpacker_85 v_Fault_refuse ⟨_, _, rfl⟩ ho38 ⟨Nat.le_of_ble_eq_true rfl, Nat.le_of_ble_eq_true rfl⟩ (Nat.le_of_ble_eq_true rfl) ⟨Nat.le_of_ble_eq_true rfl, Nat.le_of_ble_eq_true rfl⟩ ⟨rfl, rfl⟩ rfl d_Unpacker_takeCodes_234 (fun x43 σ44 => ?_)
                        refine kw_if_eq (tgt := 244) C d_Unpacker_takeCodes_237 (by decide) ?_ ?_
                        · refine kw_iconst (v := 0) C d_Unpacker_takeCodes_244 (by decide) ?_
                          exact kw_wk (hk32 0 σ44) ⟨Or.inl rfl, Or.inl rfl, Or.inl rfl, Or.inl rfl, Or.inl rfl, trivial⟩
                        · exact kw_wk (hk35 () σ44) ⟨Or.inl rfl, Or.inl rfl, Or.inl rfl, Or.inl rfl, Or.inl rfl, trivial⟩
                · refine kw_j (α := Unit) (pcj := 206) (Lj := fun x46 => [some (.ref t), none, none, none, none]) (stj := fun x46 => []) (fun x46 σ47 => ?_) (fun k45 hk45 => ?_)
                  · refine kw_iconst (v := 0) C d_Unpacker_takeCodes_206 (by decide) ?_
                    exact kw_wk (hk29 0 σ47) ⟨Or.inr rfl, Or.inl rfl, Or.inl rfl, Or.inl rfl, Or.inl rfl, trivial⟩
                  · refine kw_if_eq (tgt := 206) C d_Unpacker_takeCodes_158 (by decide) ?_ ?_
                    · exact kw_wk (hk45 () σ28) ⟨Or.inr rfl, Or.inl rfl, Or.inl rfl, Or.inl rfl, Or.inl rfl, trivial⟩
                    · refine kw_aload_n C d_Unpacker_takeCodes_161 rfl ?_
                      refine kw_getR C fi_Unpacker_32 rfl rfl ht d_Unpacker_takeCodes_162 (fun o48 ho48 => ?_)
                      refine kw_sipush (v := 256) C d_Unpacker_takeCodes_165 (by decide) ?_
                      refine kw_iald C (Or.inl ⟨ho48.1, ho48.2.1⟩) d_Unpacker_takeCodes_168 ?_
                      refine kw_if_le (tgt := 206) C d_Unpacker_takeCodes_169 (by decide) ?_ ?_
                      · exact kw_wk (hk45 () σ28) ⟨Or.inr rfl, Or.inl rfl, Or.inl rfl, Or.inl rfl, Or.inl rfl, trivial⟩
                      · refine kw_aload_n C d_Unpacker_takeCodes_172 rfl ?_
                        refine kw_getR C fi_Unpacker_29 rfl rfl ht d_Unpacker_takeCodes_173 (fun o49 ho49 => ?_)
                        refine kw_callVi (cl' := 0) (sl' := 0) (As := []) C (c_Codes_isFull hl n ids ho49  σ28) mi_Unpacker_121 v_Codes_isFull ⟨_, _, rfl⟩ ho49 ⟨Nat.le_of_ble_eq_true rfl, Nat.le_of_ble_eq_true rfl⟩ (Nat.le_of_ble_eq_true rfl) ⟨Nat.le_of_ble_eq_true rfl, Nat.le_of_ble_eq_true rfl⟩ ⟨rfl, rfl⟩ rfl d_Unpacker_takeCodes_176 (fun x50 σ51 => ?_)
                        refine kw_j (α := Unit) (pcj := 202) (Lj := fun x53 => [some (.ref t), none, none, none, none]) (stj := fun x53 => []) (fun x53 σ54 => ?_) (fun k52 hk52 => ?_)
                        · refine kw_iconst (v := 1) C d_Unpacker_takeCodes_202 (by decide) ?_
                          refine kw_goto (tgt := 207) C d_Unpacker_takeCodes_203 (by decide) ?_
                          exact kw_wk (hk29 1 σ54) ⟨Or.inr rfl, Or.inl rfl, Or.inl rfl, Or.inl rfl, Or.inl rfl, trivial⟩
                        · refine kw_if_ne (tgt := 202) C d_Unpacker_takeCodes_179 (by decide) ?_ ?_
                          · exact kw_wk (hk52 () σ51) ⟨Or.inr rfl, Or.inl rfl, Or.inl rfl, Or.inl rfl, Or.inl rfl, trivial⟩
                          · refine kw_aload_n C d_Unpacker_takeCodes_182 rfl ?_
                            refine kw_getR C fi_Unpacker_29 rfl rfl ht d_Unpacker_takeCodes_183 (fun o55 ho55 => ?_)
                            refine kw_callVi (cl' := 0) (sl' := 0) (As := []) C (c_Codes_isOneBit hl n ids ho55  σ51) mi_Unpacker_124 v_Codes_isOneBit ⟨_, _, rfl⟩ ho55 ⟨Nat.le_of_ble_eq_true rfl, Nat.le_of_ble_eq_true rfl⟩ (Nat.le_of_ble_eq_true rfl) ⟨Nat.le_of_ble_eq_true rfl, Nat.le_of_ble_eq_true rfl⟩ ⟨rfl, rfl⟩ rfl d_Unpacker_takeCodes_186 (fun x56 σ57 => ?_)
                            refine kw_if_ne (tgt := 202) C d_Unpacker_takeCodes_189 (by decide) ?_ ?_
                            · exact kw_wk (hk52 () σ57) ⟨Or.inr rfl, Or.inl rfl, Or.inl rfl, Or.inl rfl, Or.inl rfl, trivial⟩
                            · refine kw_aload_n C d_Unpacker_takeCodes_192 rfl ?_
                              refine kw_getR C fi_Unpacker_29 rfl rfl ht d_Unpacker_takeCodes_193 (fun o58 ho58 => ?_)
                              refine kw_getI C fi_Unpacker_127 (Or.inl rfl) ho58 d_Unpacker_takeCodes_196 ?_
                              refine kw_if_ne (tgt := 206) C d_Unpacker_takeCodes_199 (by decide) ?_ ?_
                              · exact kw_wk (hk45 () σ57) ⟨Or.inr rfl, Or.inl rfl, Or.inl rfl, Or.inl rfl, Or.inl rfl, trivial⟩
                              · exact kw_wk (hk52 () σ57) ⟨Or.inr rfl, Or.inl rfl, Or.inl rfl, Or.inl rfl, Or.inl rfl, trivial⟩
              · exact kw_wk (hk15 () σ19) ⟨Or.inl rfl, Or.inl rfl, Or.inl rfl, Or.inl rfl, Or.inl rfl, trivial⟩
        · refine kw_aload_n C d_Unpacker_takeCodes_88 rfl ?_
          refine kw_getR C fi_Unpacker_40 rfl rfl ht d_Unpacker_takeCodes_89 (fun o59 ho59 => ?_)
          refine kw_bipush (v := 24) C d_Unpacker_takeCodes_92 (by decide) ?_
          refine kw_aload_n C d_Unpacker_takeCodes_94 rfl ?_
          refine kw_getR C fi_Unpacker_36 rfl rfl ht d_Unpacker_takeCodes_95 (fun o60 ho60 => ?_)
          refine kw_iload_n C d_Unpacker_takeCodes_98 rfl ?_
          refine kw_callVi (cl' := 0) (sl' := 0) (As := [.int x8]) C (c_PackedBits_placeOf hl n ids ho60 x8 σ11) mi_Unpacker_82 v_PackedBits_placeOf ⟨_, _, rfl⟩ ho60 ⟨Nat.le_of_ble_eq_true rfl, Nat.le_of_ble_eq_true rfl⟩ (Nat.le_of_ble_eq_true rfl) ⟨Nat.le_of_ble_eq_true rfl, Nat.le_of_ble_eq_true rfl⟩ ⟨rfl, rfl⟩ rfl d_Unpacker_takeCodes_99 (fun x61 σ62 => ?_)
          refine kw_callVi (cl' := 0) (sl' := 0) (As := [.int 24, .int x61]) C (c_Fault_refuse hl n ids ho59 24 x61 σ62) mi_Unpacker_85 v_Fault_refuse ⟨_, _, rfl⟩ ho59 ⟨Nat.le_of_ble_eq_true rfl, Nat.le_of_ble_eq_true rfl⟩ (Nat.le_of_ble_eq_true rfl) ⟨Nat.le_of_ble_eq_true rfl, Nat.le_of_ble_eq_true rfl⟩ ⟨rfl, rfl⟩ rfl d_Unpacker_takeCodes_102 (fun x63 σ64 => ?_)
          exact kw_zret C Ce rfl (by simp) (fun _ _ => rfl) (Nat.le_of_ble_eq_true rfl) (Nat.le_of_ble_eq_true rfl) rfl d_Unpacker_takeCodes_105
      · refine kw_iconst (v := 0) C d_Unpacker_takeCodes_77 (by decide) ?_
        exact kw_zret C Ce rfl (by simp) (fun _ _ => rfl) (Nat.le_of_ble_eq_true rfl) (Nat.le_of_ble_eq_true rfl) rfl d_Unpacker_takeCodes_78
    · refine kw_aload_n C d_Unpacker_takeCodes_37 rfl ?_
      refine kw_getR C fi_Unpacker_40 rfl rfl ht d_Unpacker_takeCodes_38 (fun o65 ho65 => ?_)
      refine kw_bipush (v := 24) C d_Unpacker_takeCodes_41 (by decide) ?_
      refine kw_aload_n C d_Unpacker_takeCodes_43 rfl ?_
      refine kw_getR C fi_Unpacker_36 rfl rfl ht d_Unpacker_takeCodes_44 (fun o66 ho66 => ?_)
      refine kw_iload_n C d_Unpacker_takeCodes_47 rfl ?_
      refine kw_callVi (cl' := 0) (sl' := 0) (As := [.int x2]) C (c_PackedBits_placeOf hl n ids ho66 x2 σ5) mi_Unpacker_82 v_PackedBits_placeOf ⟨_, _, rfl⟩ ho66 ⟨Nat.le_of_ble_eq_true rfl, Nat.le_of_ble_eq_true rfl⟩ (Nat.le_of_ble_eq_true rfl) ⟨Nat.le_of_ble_eq_true rfl, Nat.le_of_ble_eq_true rfl⟩ ⟨rfl, rfl⟩ rfl d_Unpacker_takeCodes_48 (fun x67 σ68 => ?_)
      refine kw_callVi (cl' := 0) (sl' := 0) (As := [.int 24, .int x67]) C (c_Fault_refuse hl n ids ho65 24 x67 σ68) mi_Unpacker_85 v_Fault_refuse ⟨_, _, rfl⟩ ho65 ⟨Nat.le_of_ble_eq_true rfl, Nat.le_of_ble_eq_true rfl⟩ (Nat.le_of_ble_eq_true rfl) ⟨Nat.le_of_ble_eq_true rfl, Nat.le_of_ble_eq_true rfl⟩ ⟨rfl, rfl⟩ rfl d_Unpacker_takeCodes_51 (fun x69 σ70 => ?_)
      exact kw_zret C Ce rfl (by simp) (fun _ _ => rfl) (Nat.le_of_ble_eq_true rfl) (Nat.le_of_ble_eq_true rfl) rfl d_Unpacker_takeCodes_54
  · refine kw_iconst (v := 0) C d_Unpacker_takeCodes_22 (by decide) ?_
    exact kw_zret C Ce rfl (by simp) (fun _ _ => rfl) (Nat.le_of_ble_eq_true rfl) (Nat.le_of_ble_eq_true rfl) rfl d_Unpacker_takeCodes_23
/-! Unpacker_takeBlock -/
def rm_Unpacker_takeBlock : Room := { frames := 4, cells := 0, slots := 0, locals := 107 }
def F_Unpacker_takeBlock (n : Nat) (t : Nat) (σ : Mm) : Option (Int32 × Mm) :=
Option.bind (gR σ (64 * t + 0)) fun o1 =>
kf_let (gS σ (64 * o1 + 5) : Int32) fun x2 =>
Option.bind (gR σ (64 * t + 0)) fun o3 =>
kf_c2 (F_PackedBits_number n o3 2 σ) fun x4 σ5 =>
if x4 = (-1) then (
kf_z 0 (some (0, σ5))) else (
if x4 = 0 then (
kf_c2 (F_Unpacker_takePlain n t σ5) fun x7 σ8 =>
kf_z x7 (some (x7, σ8))) else (
if x4 = 1 then (
Option.bind (gR σ5 (64 * t + 4)) fun o10 =>
Option.bind (gR σ5 (64 * t + 5)) fun o11 =>
kf_c2 (F_Unpacker_takeSigns n t o10 o11 σ5) fun x12 σ13 =>
kf_z x12 (some (x12, σ13))) else (
if x4 = 2 then (
kf_c2 (F_Unpacker_takeCodes n t σ5) fun x15 σ16 =>
kf_j (α := Int32) (fun x18 σ19 =>
kf_z x18 (some (x18, σ19))) fun k17 =>
kf_j (α := Unit) (fun x21 σ22 =>
k17 0 σ22) fun k20 =>
if x15 = 0 then (
k20 () σ16) else (
Option.bind (gR σ16 (64 * t + 7)) fun o23 =>
Option.bind (gR σ16 (64 * t + 8)) fun o24 =>
kf_c2 (F_Unpacker_takeSigns n t o23 o24 σ16) fun x25 σ26 =>
if x25 = 0 then (
k20 () σ26) else (
k17 1 σ26))) else (
Option.bind (gR σ5 (64 * t + 1)) fun o28 =>
Option.bind (gR σ5 (64 * t + 0)) fun o29 =>
kf_c2 (F_PackedBits_placeOf n o29 x2 σ5) fun x30 σ31 =>
kf_c2 (F_Fault_refuse n o28 22 x30 σ31) fun x32 σ33 =>
kf_z x32 (some (x32, σ33))))))
theorem d_Unpacker_takeBlock_0 : decode prog_11_method_4_code 0 = .ok (.aload_n 0, 1) := by decide +kernel
theorem d_Unpacker_takeBlock_1 : decode prog_11_method_4_code 1 = .ok (.getfield 36, 3) := by decide +kernel
theorem d_Unpacker_takeBlock_4 : decode prog_11_method_4_code 4 = .ok (.getfield 94, 3) := by decide +kernel
theorem d_Unpacker_takeBlock_7 : decode prog_11_method_4_code 7 = .ok (.istore_n 1, 1) := by decide +kernel
theorem d_Unpacker_takeBlock_8 : decode prog_11_method_4_code 8 = .ok (.aload_n 0, 1) := by decide +kernel
theorem d_Unpacker_takeBlock_9 : decode prog_11_method_4_code 9 = .ok (.getfield 36, 3) := by decide +kernel
theorem d_Unpacker_takeBlock_12 : decode prog_11_method_4_code 12 = .ok (.iconst 2, 1) := by decide +kernel
theorem d_Unpacker_takeBlock_13 : decode prog_11_method_4_code 13 = .ok (.invokevirtual 70, 3) := by decide +kernel
theorem d_Unpacker_takeBlock_16 : decode prog_11_method_4_code 16 = .ok (.istore_n 2, 1) := by decide +kernel
theorem d_Unpacker_takeBlock_17 : decode prog_11_method_4_code 17 = .ok (.iload_n 2, 1) := by decide +kernel
theorem d_Unpacker_takeBlock_18 : decode prog_11_method_4_code 18 = .ok (.tableswitch 78 (-1) 2 #[30, 32, 37, 50], 30) := by decide +kernel
theorem d_Unpacker_takeBlock_48 : decode prog_11_method_4_code 48 = .ok (.iconst 0, 1) := by decide +kernel
theorem d_Unpacker_takeBlock_49 : decode prog_11_method_4_code 49 = .ok (.ireturn, 1) := by decide +kernel
theorem d_Unpacker_takeBlock_50 : decode prog_11_method_4_code 50 = .ok (.aload_n 0, 1) := by decide +kernel
theorem d_Unpacker_takeBlock_51 : decode prog_11_method_4_code 51 = .ok (.invokevirtual 97, 3) := by decide +kernel
theorem d_Unpacker_takeBlock_54 : decode prog_11_method_4_code 54 = .ok (.ireturn, 1) := by decide +kernel
theorem d_Unpacker_takeBlock_55 : decode prog_11_method_4_code 55 = .ok (.aload_n 0, 1) := by decide +kernel
theorem d_Unpacker_takeBlock_56 : decode prog_11_method_4_code 56 = .ok (.aload_n 0, 1) := by decide +kernel
theorem d_Unpacker_takeBlock_57 : decode prog_11_method_4_code 57 = .ok (.getfield 14, 3) := by decide +kernel
theorem d_Unpacker_takeBlock_60 : decode prog_11_method_4_code 60 = .ok (.aload_n 0, 1) := by decide +kernel
theorem d_Unpacker_takeBlock_61 : decode prog_11_method_4_code 61 = .ok (.getfield 20, 3) := by decide +kernel
theorem d_Unpacker_takeBlock_64 : decode prog_11_method_4_code 64 = .ok (.invokevirtual 100, 3) := by decide +kernel
theorem d_Unpacker_takeBlock_67 : decode prog_11_method_4_code 67 = .ok (.ireturn, 1) := by decide +kernel
theorem d_Unpacker_takeBlock_68 : decode prog_11_method_4_code 68 = .ok (.aload_n 0, 1) := by decide +kernel
theorem d_Unpacker_takeBlock_69 : decode prog_11_method_4_code 69 = .ok (.invokevirtual 104, 3) := by decide +kernel
theorem d_Unpacker_takeBlock_72 : decode prog_11_method_4_code 72 = .ok (.ifCond .eq 22, 3) := by decide +kernel
theorem d_Unpacker_takeBlock_75 : decode prog_11_method_4_code 75 = .ok (.aload_n 0, 1) := by decide +kernel
theorem d_Unpacker_takeBlock_76 : decode prog_11_method_4_code 76 = .ok (.aload_n 0, 1) := by decide +kernel
theorem d_Unpacker_takeBlock_77 : decode prog_11_method_4_code 77 = .ok (.getfield 26, 3) := by decide +kernel
theorem d_Unpacker_takeBlock_80 : decode prog_11_method_4_code 80 = .ok (.aload_n 0, 1) := by decide +kernel
theorem d_Unpacker_takeBlock_81 : decode prog_11_method_4_code 81 = .ok (.getfield 29, 3) := by decide +kernel
theorem d_Unpacker_takeBlock_84 : decode prog_11_method_4_code 84 = .ok (.invokevirtual 100, 3) := by decide +kernel
theorem d_Unpacker_takeBlock_87 : decode prog_11_method_4_code 87 = .ok (.ifCond .eq 7, 3) := by decide +kernel
theorem d_Unpacker_takeBlock_90 : decode prog_11_method_4_code 90 = .ok (.iconst 1, 1) := by decide +kernel
theorem d_Unpacker_takeBlock_91 : decode prog_11_method_4_code 91 = .ok (.goto 4, 3) := by decide +kernel
theorem d_Unpacker_takeBlock_94 : decode prog_11_method_4_code 94 = .ok (.iconst 0, 1) := by decide +kernel
theorem d_Unpacker_takeBlock_95 : decode prog_11_method_4_code 95 = .ok (.ireturn, 1) := by decide +kernel
theorem d_Unpacker_takeBlock_96 : decode prog_11_method_4_code 96 = .ok (.aload_n 0, 1) := by decide +kernel
theorem d_Unpacker_takeBlock_97 : decode prog_11_method_4_code 97 = .ok (.getfield 40, 3) := by decide +kernel
theorem d_Unpacker_takeBlock_100 : decode prog_11_method_4_code 100 = .ok (.bipush 22, 2) := by decide +kernel
theorem d_Unpacker_takeBlock_102 : decode prog_11_method_4_code 102 = .ok (.aload_n 0, 1) := by decide +kernel
theorem d_Unpacker_takeBlock_103 : decode prog_11_method_4_code 103 = .ok (.getfield 36, 3) := by decide +kernel
theorem d_Unpacker_takeBlock_106 : decode prog_11_method_4_code 106 = .ok (.iload_n 1, 1) := by decide +kernel
theorem d_Unpacker_takeBlock_107 : decode prog_11_method_4_code 107 = .ok (.invokevirtual 82, 3) := by decide +kernel
theorem d_Unpacker_takeBlock_110 : decode prog_11_method_4_code 110 = .ok (.invokevirtual 85, 3) := by decide +kernel
theorem d_Unpacker_takeBlock_113 : decode prog_11_method_4_code 113 = .ok (.ireturn, 1) := by decide +kernel
set_option maxRecDepth 100000 in
set_option maxHeartbeats 4000000 in
theorem c_Unpacker_takeBlock {l0 : Launch} (hl : l0.stackTraces = false) (n : Nat) (ids : List Nat) {t : Nat} (ht : mm_ok ids t 1 6)  (σ : Mm) : kw_C l0 y_Unpacker_takeBlock (Cond.code y_Unpacker_takeBlock prog_11_method_4_code 3 (some .boolean) :: kw_Ts) rm_Unpacker_takeBlock kw_oi ids [] [.ref t] σ (F_Unpacker_takeBlock n t σ) := by
  refine kw_start (L0 := [some (.ref t), none, none]) hl (by decide +kernel) (Nat.le_of_ble_eq_true rfl) rfl (fun Γ ad C Ce => ?_)
  unfold F_Unpacker_takeBlock
  refine kw_aload_n C d_Unpacker_takeBlock_0 rfl ?_
  refine kw_getR C fi_Unpacker_36 rfl rfl ht d_Unpacker_takeBlock_1 (fun o1 ho1 => ?_)
  refine kw_getI C fi_Unpacker_94 (Or.inl rfl) ho1 d_Unpacker_takeBlock_4 ?_
  refine kw_leti (fun x2 => ?_)
  refine kw_istore_n (L' := [some (.ref t), some (.int x2), none]) C d_Unpacker_takeBlock_7 (by decide) rfl ?_
  refine kw_aload_n C d_Unpacker_takeBlock_8 rfl ?_
  refine kw_getR C fi_Unpacker_36 rfl rfl ht d_Unpacker_takeBlock_9 (fun o3 ho3 => ?_)
  refine kw_iconst (v := 2) C d_Unpacker_takeBlock_12 (by decide) ?_
  refine kw_callVi (cl' := 0) (sl' := 0) (As := [.int 2]) C (c_PackedBits_number hl n ids ho3 2 σ) mi_Unpacker_70 v_PackedBits_number ⟨_, _, rfl⟩ ho3 ⟨Nat.le_of_ble_eq_true rfl, Nat.le_of_ble_eq_true rfl⟩ (Nat.le_of_ble_eq_true rfl) ⟨Nat.le_of_ble_eq_true rfl, Nat.le_of_ble_eq_true rfl⟩ ⟨rfl, rfl⟩ rfl d_Unpacker_takeBlock_13 (fun x4 σ5 => ?_)
  refine kw_istore_n (L' := [some (.ref t), some (.int x2), some (.int x4)]) C d_Unpacker_takeBlock_16 (by decide) rfl ?_
  refine kw_iload_n C d_Unpacker_takeBlock_17 rfl ?_
  refine kw_sw ?_ (fun hn6 => ?_)
  · refine kw_tsIn (off := 30) (tgt := 48) C d_Unpacker_takeBlock_18 (by decide) (by decide) (by decide) (by decide) ?_
    refine kw_iconst (v := 0) C d_Unpacker_takeBlock_48 (by decide) ?_
    exact kw_zret C Ce rfl (by simp) (fun _ _ => rfl) (Nat.le_of_ble_eq_true rfl) (Nat.le_of_ble_eq_true rfl) rfl d_Unpacker_takeBlock_49
  refine kw_sw ?_ (fun hn9 => ?_)
  · refine kw_tsIn (off := 32) (tgt := 50) C d_Unpacker_takeBlock_18 (by decide) (by decide) (by decide) (by decide) ?_
    refine kw_aload_n C d_Unpacker_takeBlock_50 rfl ?_
    refine kw_callVi (cl' := 0) (sl' := 0) (As := []) C (c_Unpacker_takePlain hl n ids ht  σ5) mi_Unpacker_97 v_Unpacker_takePlain ⟨_, _, rfl⟩ ht ⟨Nat.le_of_ble_eq_true rfl, Nat.le_of_ble_eq_true rfl⟩ (Nat.le_of_ble_eq_true rfl) ⟨Nat.le_of_ble_eq_true rfl, Nat.le_of_ble_eq_true rfl⟩ ⟨rfl, rfl⟩ rfl d_Unpacker_takeBlock_51 (fun x7 σ8 => ?_)
    exact kw_zret C Ce rfl (by simp) (fun _ _ => rfl) (Nat.le_of_ble_eq_true rfl) (Nat.le_of_ble_eq_true rfl) rfl d_Unpacker_takeBlock_54
  refine kw_sw ?_ (fun hn14 => ?_)
  · refine kw_tsIn (off := 37) (tgt := 55) C d_Unpacker_takeBlock_18 (by decide) (by decide) (by decide) (by decide) ?_
    refine kw_aload_n C d_Unpacker_takeBlock_55 rfl ?_
    refine kw_aload_n C d_Unpacker_takeBlock_56 rfl ?_
    refine kw_getR C fi_Unpacker_14 rfl rfl ht d_Unpacker_takeBlock_57 (fun o10 ho10 => ?_)
    refine kw_aload_n C d_Unpacker_takeBlock_60 rfl ?_
    refine kw_getR C fi_Unpacker_20 rfl rfl ht d_Unpacker_takeBlock_61 (fun o11 ho11 => ?_)
    refine kw_callVi (cl' := 0) (sl' := 0) (As := [.ref o10, .ref o11]) C (c_Unpacker_takeSigns hl n ids ht ho10 ho11  σ5) mi_Unpacker_100 v_Unpacker_takeSigns ⟨_, _, rfl⟩ ht ⟨Nat.le_of_ble_eq_true rfl, Nat.le_of_ble_eq_true rfl⟩ (Nat.le_of_ble_eq_true rfl) ⟨Nat.le_of_ble_eq_true rfl, Nat.le_of_ble_eq_true rfl⟩ ⟨rfl, rfl⟩ rfl d_Unpacker_takeBlock_64 (fun x12 σ13 => ?_)
    exact kw_zret C Ce rfl (by simp) (fun _ _ => rfl) (Nat.le_of_ble_eq_true rfl) (Nat.le_of_ble_eq_true rfl) rfl d_Unpacker_takeBlock_67
  refine kw_sw ?_ (fun hn27 => ?_)
  · refine kw_tsIn (off := 50) (tgt := 68) C d_Unpacker_takeBlock_18 (by decide) (by decide) (by decide) (by decide) ?_
    refine kw_aload_n C d_Unpacker_takeBlock_68 rfl ?_
    refine kw_callVi (cl' := 0) (sl' := 0) (As := []) C (c_Unpacker_takeCodes hl n ids ht  σ5) mi_Unpacker_104 v_Unpacker_takeCodes ⟨_, _, rfl⟩ ht ⟨Nat.le_of_ble_eq_true rfl, Nat.le_of_ble_eq_true rfl⟩ (Nat.le_of_ble_eq_true rfl) ⟨Nat.le_of_ble_eq_true rfl, Nat.le_of_ble_eq_true rfl⟩ ⟨rfl, rfl⟩ rfl d_Unpacker_takeBlock_69 (fun x15 σ16 => ?_)
    refine kw_j (α := Int32) (pcj := 95) (Lj := fun x18 => [none, none, none]) (stj := fun x18 => [.int x18]) (fun x18 σ19 => ?_) (fun k17 hk17 => ?_)
    · exact kw_zret C Ce rfl (by simp) (fun _ _ => rfl) (Nat.le_of_ble_eq_true rfl) (Nat.le_of_ble_eq_true rfl) rfl d_Unpacker_takeBlock_95
    · refine kw_j (α := Unit) (pcj := 94) (Lj := fun x21 => [none, none, none]) (stj := fun x21 => []) (fun x21 σ22 => ?_) (fun k20 hk20 => ?_)
      · refine kw_iconst (v := 0) C d_Unpacker_takeBlock_94 (by decide) ?_
        exact kw_wk (hk17 0 σ22) ⟨Or.inl rfl, Or.inl rfl, Or.inl rfl, trivial⟩
      · refine kw_if_eq (tgt := 94) C d_Unpacker_takeBlock_72 (by decide) ?_ ?_
        · exact kw_wk (hk20 () σ16) ⟨Or.inl rfl, Or.inl rfl, Or.inl rfl, trivial⟩
        · refine kw_aload_n C d_Unpacker_takeBlock_75 rfl ?_
          refine kw_aload_n C d_Unpacker_takeBlock_76 rfl ?_
          refine kw_getR C fi_Unpacker_26 rfl rfl ht d_Unpacker_takeBlock_77 (fun o23 ho23 => ?_)
          refine kw_aload_n C d_Unpacker_takeBlock_80 rfl ?_
          refine kw_getR C fi_Unpacker_29 rfl rfl ht d_Unpacker_takeBlock_81 (fun o24 ho24 => ?_)
          refine kw_callVi (cl' := 0) (sl' := 0) (As := [.ref o23, .ref o24]) C (c_Unpacker_takeSigns hl n ids ht ho23 ho24  σ16) mi_Unpacker_100 v_Unpacker_takeSigns ⟨_, _, rfl⟩ ht ⟨Nat.le_of_ble_eq_true rfl, Nat.le_of_ble_eq_true rfl⟩ (Nat.le_of_ble_eq_true rfl) ⟨Nat.le_of_ble_eq_true rfl, Nat.le_of_ble_eq_true rfl⟩ ⟨rfl, rfl⟩ rfl d_Unpacker_takeBlock_84 (fun x25 σ26 => ?_)
          refine kw_if_eq (tgt := 94) C d_Unpacker_takeBlock_87 (by decide) ?_ ?_
          · exact kw_wk (hk20 () σ26) ⟨Or.inl rfl, Or.inl rfl, Or.inl rfl, trivial⟩
          · refine kw_iconst (v := 1) C d_Unpacker_takeBlock_90 (by decide) ?_
            refine kw_goto (tgt := 95) C d_Unpacker_takeBlock_91 (by decide) ?_
            exact kw_wk (hk17 1 σ26) ⟨Or.inl rfl, Or.inl rfl, Or.inl rfl, trivial⟩
  · refine kw_tsOut (tgt := 96) C d_Unpacker_takeBlock_18 (kw_tso (lo := (-1)) (hi := 2) x4 (fun k h1 h2 => by rcases (show k = (-1) ∨ k = 0 ∨ k = 1 ∨ k = 2 by omega) with rfl | rfl | rfl | rfl; exact kw_ni hn6 (by decide); exact kw_ni hn9 (by decide); exact kw_ni hn14 (by decide); exact kw_ni hn27 (by decide))) (by decide) ?_
    refine kw_aload_n C d_Unpacker_takeBlock_96 rfl ?_
    refine kw_getR C fi_Unpacker_40 rfl rfl ht d_Unpacker_takeBlock_97 (fun o28 ho28 => ?_)
    refine kw_bipush (v := 22) C d_Unpacker_takeBlock_100 (by decide) ?_
    refine kw_aload_n C d_Unpacker_takeBlock_102 rfl ?_
    refine kw_getR C fi_Unpacker_36 rfl rfl ht d_Unpacker_takeBlock_103 (fun o29 ho29 => ?_)
    refine kw_iload_n C d_Unpacker_takeBlock_106 rfl ?_
    refine kw_callVi (cl' := 0) (sl' := 0) (As := [.int x2]) C (c_PackedBits_placeOf hl n ids ho29 x2 σ5) mi_Unpacker_82 v_PackedBits_placeOf ⟨_, _, rfl⟩ ho29 ⟨Nat.le_of_ble_eq_true rfl, Nat.le_of_ble_eq_true rfl⟩ (Nat.le_of_ble_eq_true rfl) ⟨Nat.le_of_ble_eq_true rfl, Nat.le_of_ble_eq_true rfl⟩ ⟨rfl, rfl⟩ rfl d_Unpacker_takeBlock_107 (fun x30 σ31 => ?_)
    refine kw_callVi (cl' := 0) (sl' := 0) (As := [.int 22, .int x30]) C (c_Fault_refuse hl n ids ho28 22 x30 σ31) mi_Unpacker_85 v_Fault_refuse ⟨_, _, rfl⟩ ho28 ⟨Nat.le_of_ble_eq_true rfl, Nat.le_of_ble_eq_true rfl⟩ (Nat.le_of_ble_eq_true rfl) ⟨Nat.le_of_ble_eq_true rfl, Nat.le_of_ble_eq_true rfl⟩ ⟨rfl, rfl⟩ rfl d_Unpacker_takeBlock_110 (fun x32 σ33 => ?_)
    exact kw_zret C Ce rfl (by simp) (fun _ _ => rfl) (Nat.le_of_ble_eq_true rfl) (Nat.le_of_ble_eq_true rfl) rfl d_Unpacker_takeBlock_113
/-! Rows_sumOf -/
def rm_Rows_sumOf : Room := { frames := 0, cells := 0, slots := 0, locals := 0 }
def F_Rows_sumOf (n : Nat) (t : Nat) (a0 : Int32) (σ : Mm) : Option (Int32 × Mm) :=
kf_l (α := Int32 × Int32 × Int32) n (fun k1 x2 σ3 =>
if a0 ≤ x2.2.2 then (
some ((x2.2.1 <<< (16 &&& 31)) ||| x2.1, σ3)) else (
Option.bind (gR σ3 (64 * t + 0)) fun o4 =>
kf_in x2.2.2 (mm_kd o4).2.2 <|
kf_nz 65521 <|
kf_let ((x2.1 + (gB σ3 o4 x2.2.2.toNatClampNeg)) - (x2.1 + (gB σ3 o4 x2.2.2.toNatClampNeg)) / 65521 * 65521 : Int32) fun x5 =>
kf_nz 65521 <|
kf_let ((x2.2.1 + x5) - (x2.2.1 + x5) / 65521 * 65521 : Int32) fun x6 =>
kf_let (x2.2.2 + Int32.ofInt 1) fun x7 =>
k1 (x5, x6, x7) σ3)) (1, 0, 0) σ
theorem d_Rows_sumOf_0 : decode prog_9_method_11_code 0 = .ok (.iconst 1, 1) := by decide +kernel
theorem d_Rows_sumOf_1 : decode prog_9_method_11_code 1 = .ok (.istore_n 2, 1) := by decide +kernel
theorem d_Rows_sumOf_2 : decode prog_9_method_11_code 2 = .ok (.iconst 0, 1) := by decide +kernel
theorem d_Rows_sumOf_3 : decode prog_9_method_11_code 3 = .ok (.istore_n 3, 1) := by decide +kernel
theorem d_Rows_sumOf_4 : decode prog_9_method_11_code 4 = .ok (.iconst 0, 1) := by decide +kernel
theorem d_Rows_sumOf_5 : decode prog_9_method_11_code 5 = .ok (.istore 4, 2) := by decide +kernel
theorem d_Rows_sumOf_7 : decode prog_9_method_11_code 7 = .ok (.iload 4, 2) := by decide +kernel
theorem d_Rows_sumOf_9 : decode prog_9_method_11_code 9 = .ok (.iload_n 1, 1) := by decide +kernel
theorem d_Rows_sumOf_10 : decode prog_9_method_11_code 10 = .ok (.if_icmp .ge 29, 3) := by decide +kernel
theorem d_Rows_sumOf_13 : decode prog_9_method_11_code 13 = .ok (.iload_n 2, 1) := by decide +kernel
theorem d_Rows_sumOf_14 : decode prog_9_method_11_code 14 = .ok (.aload_n 0, 1) := by decide +kernel
theorem d_Rows_sumOf_15 : decode prog_9_method_11_code 15 = .ok (.getfield 10, 3) := by decide +kernel
theorem d_Rows_sumOf_18 : decode prog_9_method_11_code 18 = .ok (.iload 4, 2) := by decide +kernel
theorem d_Rows_sumOf_20 : decode prog_9_method_11_code 20 = .ok (.iaload, 1) := by decide +kernel
theorem d_Rows_sumOf_21 : decode prog_9_method_11_code 21 = .ok (.iadd, 1) := by decide +kernel
theorem d_Rows_sumOf_22 : decode prog_9_method_11_code 22 = .ok (.ldc 99, 2) := by decide +kernel
theorem d_Rows_sumOf_24 : decode prog_9_method_11_code 24 = .ok (.irem, 1) := by decide +kernel
theorem d_Rows_sumOf_25 : decode prog_9_method_11_code 25 = .ok (.istore_n 2, 1) := by decide +kernel
theorem d_Rows_sumOf_26 : decode prog_9_method_11_code 26 = .ok (.iload_n 3, 1) := by decide +kernel
theorem d_Rows_sumOf_27 : decode prog_9_method_11_code 27 = .ok (.iload_n 2, 1) := by decide +kernel
theorem d_Rows_sumOf_28 : decode prog_9_method_11_code 28 = .ok (.iadd, 1) := by decide +kernel
theorem d_Rows_sumOf_29 : decode prog_9_method_11_code 29 = .ok (.ldc 99, 2) := by decide +kernel
theorem d_Rows_sumOf_31 : decode prog_9_method_11_code 31 = .ok (.irem, 1) := by decide +kernel
theorem d_Rows_sumOf_32 : decode prog_9_method_11_code 32 = .ok (.istore_n 3, 1) := by decide +kernel
theorem d_Rows_sumOf_33 : decode prog_9_method_11_code 33 = .ok (.iinc 4 1, 3) := by decide +kernel
theorem d_Rows_sumOf_36 : decode prog_9_method_11_code 36 = .ok (.goto (-29), 3) := by decide +kernel
theorem d_Rows_sumOf_39 : decode prog_9_method_11_code 39 = .ok (.iload_n 3, 1) := by decide +kernel
theorem d_Rows_sumOf_40 : decode prog_9_method_11_code 40 = .ok (.bipush 16, 2) := by decide +kernel
theorem d_Rows_sumOf_42 : decode prog_9_method_11_code 42 = .ok (.ishl, 1) := by decide +kernel
theorem d_Rows_sumOf_43 : decode prog_9_method_11_code 43 = .ok (.iload_n 2, 1) := by decide +kernel
theorem d_Rows_sumOf_44 : decode prog_9_method_11_code 44 = .ok (.ior, 1) := by decide +kernel
theorem d_Rows_sumOf_45 : decode prog_9_method_11_code 45 = .ok (.ireturn, 1) := by decide +kernel
set_option maxRecDepth 100000 in
set_option maxHeartbeats 4000000 in
theorem c_Rows_sumOf {l0 : Launch} (hl : l0.stackTraces = false) (n : Nat) (ids : List Nat) {t : Nat} (ht : mm_ok ids t 1 3) (a0 : Int32) (σ : Mm) : kw_C l0 y_Rows_sumOf (Cond.code y_Rows_sumOf prog_9_method_11_code 5 (some .int) :: kw_Ts) rm_Rows_sumOf kw_oi ids [] [.ref t, .int a0] σ (F_Rows_sumOf n t a0 σ) := by
  refine kw_start (L0 := [some (.ref t), some (.int a0), none, none, none]) hl (by decide +kernel) (Nat.le_of_ble_eq_true rfl) rfl (fun Γ ad C Ce => ?_)
  unfold F_Rows_sumOf
  refine kw_iconst (v := 1) C d_Rows_sumOf_0 (by decide) ?_
  refine kw_istore_n (L' := [some (.ref t), some (.int a0), some (.int 1), none, none]) C d_Rows_sumOf_1 (by decide) rfl ?_
  refine kw_iconst (v := 0) C d_Rows_sumOf_2 (by decide) ?_
  refine kw_istore_n (L' := [some (.ref t), some (.int a0), some (.int 1), some (.int 0), none]) C d_Rows_sumOf_3 (by decide) rfl ?_
  refine kw_iconst (v := 0) C d_Rows_sumOf_4 (by decide) ?_
  refine kw_istore (L' := [some (.ref t), some (.int a0), some (.int 1), some (.int 0), some (.int 0)]) C d_Rows_sumOf_5 (by decide) rfl ?_
  refine kw_wk (kw_l (α := Int32 × Int32 × Int32) (pc := 7) (Lj := fun x2 => [some (.ref t), some (.int a0), some (.int x2.1), some (.int x2.2.1), some (.int x2.2.2)]) (stj := fun x2 => []) (fun k1 hk1 x2 σ3 => ?_) n (1, 0, 0) σ) ⟨Or.inr rfl, Or.inr rfl, Or.inr rfl, Or.inr rfl, Or.inr rfl, trivial⟩
  refine kw_iload C d_Rows_sumOf_7 rfl ?_
  refine kw_iload_n C d_Rows_sumOf_9 rfl ?_
  refine kw_icmp_ge (tgt := 39) C d_Rows_sumOf_10 (by decide) ?_ ?_
  · refine kw_iload_n C d_Rows_sumOf_39 rfl ?_
    refine kw_bipush (v := 16) C d_Rows_sumOf_40 (by decide) ?_
    refine kw_ishl C d_Rows_sumOf_42 ?_
    refine kw_iload_n C d_Rows_sumOf_43 rfl ?_
    refine kw_ior C d_Rows_sumOf_44 ?_
    exact kw_iret C Ce rfl (by simp) (fun _ _ => rfl) (Nat.le_of_ble_eq_true rfl) (Nat.le_of_ble_eq_true rfl) rfl d_Rows_sumOf_45
  · refine kw_iload_n C d_Rows_sumOf_13 rfl ?_
    refine kw_aload_n C d_Rows_sumOf_14 rfl ?_
    refine kw_getR C fi_Rows_10 rfl rfl ht d_Rows_sumOf_15 (fun o4 ho4 => ?_)
    refine kw_iload C d_Rows_sumOf_18 rfl ?_
    refine kw_iald C (Or.inl ⟨ho4.1, ho4.2.1⟩) d_Rows_sumOf_20 ?_
    refine kw_iadd C d_Rows_sumOf_21 ?_
    refine kw_ldc (v := 65521) C d_Rows_sumOf_22 k_Rows_99 ?_
    refine kw_irem C d_Rows_sumOf_24 ?_
    refine kw_leti (fun x5 => ?_)
    refine kw_istore_n (L' := [some (.ref t), some (.int a0), some (.int x5), some (.int x2.2.1), some (.int x2.2.2)]) C d_Rows_sumOf_25 (by decide) rfl ?_
    refine kw_iload_n C d_Rows_sumOf_26 rfl ?_
    refine kw_iload_n C d_Rows_sumOf_27 rfl ?_
    refine kw_iadd C d_Rows_sumOf_28 ?_
    refine kw_ldc (v := 65521) C d_Rows_sumOf_29 k_Rows_99 ?_
    refine kw_irem C d_Rows_sumOf_31 ?_
    refine kw_leti (fun x6 => ?_)
    refine kw_istore_n (L' := [some (.ref t), some (.int a0), some (.int x5), some (.int x6), some (.int x2.2.2)]) C d_Rows_sumOf_32 (by decide) rfl ?_
    refine kw_iincL (L2 := fun x7 => [some (.ref t), some (.int a0), some (.int x5), some (.int x6), some (.int x7)]) C d_Rows_sumOf_33 (by decide) rfl (fun _ => rfl) (fun x7 => ?_)
    refine kw_goto (tgt := 7) C d_Rows_sumOf_36 (by decide) ?_
    exact kw_wk (hk1 (x5, x6, x7) σ3) ⟨Or.inr rfl, Or.inr rfl, Or.inr rfl, Or.inr rfl, Or.inr rfl, trivial⟩
/-! PackedBits_isAtEnd -/
def rm_PackedBits_isAtEnd : Room := { frames := 0, cells := 0, slots := 0, locals := 0 }
def F_PackedBits_isAtEnd (n : Nat) (t : Nat) (σ : Mm) : Option (Int32 × Mm) :=
kf_j (α := Int32) (fun x2 σ3 =>
kf_z x2 (some (x2, σ3))) fun k1 =>
if (gS σ (64 * t + 5)) < ((8 : Int32) * (gS σ (64 * t + 3))) then (
k1 0 σ) else (
k1 1 σ)
theorem d_PackedBits_isAtEnd_0 : decode prog_5_method_4_code 0 = .ok (.aload_n 0, 1) := by decide +kernel
theorem d_PackedBits_isAtEnd_1 : decode prog_5_method_4_code 1 = .ok (.getfield 33, 3) := by decide +kernel
theorem d_PackedBits_isAtEnd_4 : decode prog_5_method_4_code 4 = .ok (.bipush 8, 2) := by decide +kernel
theorem d_PackedBits_isAtEnd_6 : decode prog_5_method_4_code 6 = .ok (.aload_n 0, 1) := by decide +kernel
theorem d_PackedBits_isAtEnd_7 : decode prog_5_method_4_code 7 = .ok (.getfield 26, 3) := by decide +kernel
theorem d_PackedBits_isAtEnd_10 : decode prog_5_method_4_code 10 = .ok (.imul, 1) := by decide +kernel
theorem d_PackedBits_isAtEnd_11 : decode prog_5_method_4_code 11 = .ok (.if_icmp .lt 7, 3) := by decide +kernel
theorem d_PackedBits_isAtEnd_14 : decode prog_5_method_4_code 14 = .ok (.iconst 1, 1) := by decide +kernel
theorem d_PackedBits_isAtEnd_15 : decode prog_5_method_4_code 15 = .ok (.goto 4, 3) := by decide +kernel
theorem d_PackedBits_isAtEnd_18 : decode prog_5_method_4_code 18 = .ok (.iconst 0, 1) := by decide +kernel
theorem d_PackedBits_isAtEnd_19 : decode prog_5_method_4_code 19 = .ok (.ireturn, 1) := by decide +kernel
set_option maxRecDepth 100000 in
set_option maxHeartbeats 4000000 in
theorem c_PackedBits_isAtEnd {l0 : Launch} (hl : l0.stackTraces = false) (n : Nat) (ids : List Nat) {t : Nat} (ht : mm_ok ids t 1 4)  (σ : Mm) : kw_C l0 y_PackedBits_isAtEnd (Cond.code y_PackedBits_isAtEnd prog_5_method_4_code 1 (some .boolean) :: kw_Ts) rm_PackedBits_isAtEnd kw_oi ids [] [.ref t] σ (F_PackedBits_isAtEnd n t σ) := by
  refine kw_start (L0 := [some (.ref t)]) hl (by decide +kernel) (Nat.le_of_ble_eq_true rfl) rfl (fun Γ ad C Ce => ?_)
  unfold F_PackedBits_isAtEnd
  refine kw_aload_n C d_PackedBits_isAtEnd_0 rfl ?_
  refine kw_getI C fi_PackedBits_33 (Or.inl rfl) ht d_PackedBits_isAtEnd_1 ?_
  refine kw_bipush (v := 8) C d_PackedBits_isAtEnd_4 (by decide) ?_
  refine kw_aload_n C d_PackedBits_isAtEnd_6 rfl ?_
  refine kw_getI C fi_PackedBits_26 (Or.inl rfl) ht d_PackedBits_isAtEnd_7 ?_
  refine kw_imul C d_PackedBits_isAtEnd_10 ?_
  refine kw_j (α := Int32) (pcj := 19) (Lj := fun x2 => [none]) (stj := fun x2 => [.int x2]) (fun x2 σ3 => ?_) (fun k1 hk1 => ?_)
  · exact kw_zret C Ce rfl (by simp) (fun _ _ => rfl) (Nat.le_of_ble_eq_true rfl) (Nat.le_of_ble_eq_true rfl) rfl d_PackedBits_isAtEnd_19
  · refine kw_icmp_lt (tgt := 18) C d_PackedBits_isAtEnd_11 (by decide) ?_ ?_
    · refine kw_iconst (v := 0) C d_PackedBits_isAtEnd_18 (by decide) ?_
      exact kw_wk (hk1 0 σ) ⟨Or.inl rfl, trivial⟩
    · refine kw_iconst (v := 1) C d_PackedBits_isAtEnd_14 (by decide) ?_
      refine kw_goto (tgt := 19) C d_PackedBits_isAtEnd_15 (by decide) ?_
      exact kw_wk (hk1 1 σ) ⟨Or.inl rfl, trivial⟩
