theorem mi_Pieces_84 : kw_mi "PictureFile$Pieces" 84 y_Pieces_mayStand prog_8_method_6_code 3 (some .boolean) 1 := ⟨(kw_m3 (i := 5) (by decide +kernel) (by decide +kernel)), w_Pieces_mayStand, in_Pieces, by decide +kernel, by decide +kernel, by decide +kernel⟩
theorem v_Pieces_mayStand : Cond.instanceMethod y_Pieces_mayStand ∈ kw_Ts ∧ Cond.selects y_Pieces_mayStand.cls y_Pieces_mayStand y_Pieces_mayStand ∈ kw_Ts := ⟨(kw_m3 (i := 7) (by decide +kernel) (by decide +kernel)), (kw_sel (i := 2) (by decide +kernel) (by decide +kernel))⟩
theorem mi_Pieces_96 : kw_mi "PictureFile$Pieces" 96 y_Pieces_takeData prog_8_method_11_code 3 (some .boolean) 2 := ⟨(kw_m3 (i := 82) (by decide +kernel) (by decide +kernel)), w_Pieces_takeData, in_Pieces, by decide +kernel, by decide +kernel, by decide +kernel⟩
theorem v_Pieces_takeData : Cond.instanceMethod y_Pieces_takeData ∈ kw_Ts ∧ Cond.selects y_Pieces_takeData.cls y_Pieces_takeData y_Pieces_takeData ∈ kw_Ts := ⟨(kw_m3 (i := 84) (by decide +kernel) (by decide +kernel)), (kw_sel (i := 8) (by decide +kernel) (by decide +kernel))⟩
theorem mi_Pieces_87 : kw_mi "PictureFile$Pieces" 87 y_Pieces_takeHeader prog_8_method_7_code 5 (some .boolean) 2 := ⟨(kw_m3 (i := 17) (by decide +kernel) (by decide +kernel)), w_Pieces_takeHeader, in_Pieces, by decide +kernel, by decide +kernel, by decide +kernel⟩
theorem v_Pieces_takeHeader : Cond.instanceMethod y_Pieces_takeHeader ∈ kw_Ts ∧ Cond.selects y_Pieces_takeHeader.cls y_Pieces_takeHeader y_Pieces_takeHeader ∈ kw_Ts := ⟨(kw_m3 (i := 19) (by decide +kernel) (by decide +kernel)), (kw_sel (i := 3) (by decide +kernel) (by decide +kernel))⟩
theorem mi_Pieces_90 : kw_mi "PictureFile$Pieces" 90 y_Pieces_takeColours prog_8_method_9_code 4 (some .boolean) 2 := ⟨(kw_m3 (i := 61) (by decide +kernel) (by decide +kernel)), w_Pieces_takeColours, in_Pieces, by decide +kernel, by decide +kernel, by decide +kernel⟩
theorem v_Pieces_takeColours : Cond.instanceMethod y_Pieces_takeColours ∈ kw_Ts ∧ Cond.selects y_Pieces_takeColours.cls y_Pieces_takeColours y_Pieces_takeColours ∈ kw_Ts := ⟨(kw_m3 (i := 63) (by decide +kernel) (by decide +kernel)), (kw_sel (i := 6) (by decide +kernel) (by decide +kernel))⟩
theorem mi_Pieces_93 : kw_mi "PictureFile$Pieces" 93 y_Pieces_takeThins prog_8_method_10_code 5 (some .boolean) 2 := ⟨(kw_m3 (i := 73) (by decide +kernel) (by decide +kernel)), w_Pieces_takeThins, in_Pieces, by decide +kernel, by decide +kernel, by decide +kernel⟩
theorem v_Pieces_takeThins : Cond.instanceMethod y_Pieces_takeThins ∈ kw_Ts ∧ Cond.selects y_Pieces_takeThins.cls y_Pieces_takeThins y_Pieces_takeThins ∈ kw_Ts := ⟨(kw_m3 (i := 75) (by decide +kernel) (by decide +kernel)), (kw_sel (i := 7) (by decide +kernel) (by decide +kernel))⟩
def y_Pieces_isFit : MethodName := ⟨"PictureFile$Pieces", "isFit", "(I)Z"⟩
theorem w_Pieces_isFit : Cond.code y_Pieces_isFit prog_8_method_5_code 4 (some .boolean) ∈ kw_Ts := (kw_m3 (i := 4) (by decide +kernel) (by decide +kernel))
theorem mi_Pieces_41 : kw_mi "PictureFile$Pieces" 41 y_PackedBits_clear prog_5_method_2_code 1 none 0 := ⟨(kw_m2 (i := 210) (by decide +kernel) (by decide +kernel)), w_PackedBits_clear, in_PackedBits, by decide +kernel, by decide +kernel, by decide +kernel⟩
theorem v_PackedBits_clear : Cond.instanceMethod y_PackedBits_clear ∈ kw_Ts ∧ Cond.selects y_PackedBits_clear.cls y_PackedBits_clear y_PackedBits_clear ∈ kw_Ts := ⟨(kw_m2 (i := 211) (by decide +kernel) (by decide +kernel)), (kw_m2 (i := 212) (by decide +kernel) (by decide +kernel))⟩
theorem gs_Pieces_46 : Cond.fieldLink "PictureFile$Pieces" 46 "PictureFile$Tape" "MARK" "[I" ∈ kw_Ts := (kw_m2 (i := 214) (by decide +kernel) (by decide +kernel))
theorem k_Pieces_64 : Cond.constant "PictureFile$Pieces" 64 65536 ∈ kw_Ts := (kw_m2 (i := 220) (by decide +kernel) (by decide +kernel))
theorem k_Pieces_65 : Cond.constant "PictureFile$Pieces" 65 1229278788 ∈ kw_Ts := (kw_m2 (i := 221) (by decide +kernel) (by decide +kernel))
theorem mi_Pieces_66 : kw_mi "PictureFile$Pieces" 66 y_Pieces_isWhole prog_8_method_3_code 4 (some .boolean) 1 := ⟨(kw_m2 (i := 222) (by decide +kernel) (by decide +kernel)), w_Pieces_isWhole, in_Pieces, by decide +kernel, by decide +kernel, by decide +kernel⟩
theorem v_Pieces_isWhole : Cond.instanceMethod y_Pieces_isWhole ∈ kw_Ts ∧ Cond.selects y_Pieces_isWhole.cls y_Pieces_isWhole y_Pieces_isWhole ∈ kw_Ts := ⟨(kw_m2 (i := 224) (by decide +kernel) (by decide +kernel)), (kw_sel (i := 0) (by decide +kernel) (by decide +kernel))⟩
theorem mi_Pieces_70 : kw_mi "PictureFile$Pieces" 70 y_Pieces_isFit prog_8_method_5_code 4 (some .boolean) 1 := ⟨(kw_m3 (i := 1) (by decide +kernel) (by decide +kernel)), w_Pieces_isFit, in_Pieces, by decide +kernel, by decide +kernel, by decide +kernel⟩
theorem v_Pieces_isFit : Cond.instanceMethod y_Pieces_isFit ∈ kw_Ts ∧ Cond.selects y_Pieces_isFit.cls y_Pieces_isFit y_Pieces_isFit ∈ kw_Ts := ⟨(kw_m3 (i := 3) (by decide +kernel) (by decide +kernel)), (kw_sel (i := 1) (by decide +kernel) (by decide +kernel))⟩
def y_Pieces_walk : MethodName := ⟨"PictureFile$Pieces", "walk", "(LPictureFile$Picture;)Z"⟩
theorem w_Pieces_walk : Cond.code y_Pieces_walk prog_8_method_2_code 4 (some .boolean) ∈ kw_Ts := (kw_m2 (i := 209) (by decide +kernel) (by decide +kernel))
theorem fi_PackedBits_18 : kw_fi "PictureFile$PackedBits" 18 4 0 true := ⟨mmR_4, mmT_4, 6, rfl, rfl, by decide, mmI_4, mmY_4, mmN_4, rfl, (kw_m1 (i := 99) (by decide +kernel) (by decide +kernel))⟩
theorem fi_PackedBits_44 : kw_fi "PictureFile$PackedBits" 44 1 0 true := ⟨mmR_1, mmT_1, 3, rfl, rfl, by decide, mmI_1, mmY_1, mmN_1, rfl, (kw_m1 (i := 44) (by decide +kernel) (by decide +kernel))⟩
theorem fi_PackedBits_22 : kw_fi "PictureFile$PackedBits" 22 4 1 true := ⟨mmR_4, mmT_4, 6, rfl, rfl, by decide, mmI_4, mmY_4, mmN_4, rfl, (kw_m1 (i := 100) (by decide +kernel) (by decide +kernel))⟩
theorem fi_PackedBits_36 : kw_fi "PictureFile$PackedBits" 36 2 0 false := ⟨mmR_2, mmT_2, 2, rfl, rfl, by decide, mmI_2, mmY_2, mmN_2, rfl, (kw_m1 (i := 67) (by decide +kernel) (by decide +kernel))⟩
theorem fi_PackedBits_41 : kw_fi "PictureFile$PackedBits" 41 2 1 false := ⟨mmR_2, mmT_2, 2, rfl, rfl, by decide, mmI_2, mmY_2, mmN_2, rfl, (kw_m1 (i := 70) (by decide +kernel) (by decide +kernel))⟩
def y_PackedBits_number : MethodName := ⟨"PictureFile$PackedBits", "number", "(I)I"⟩
theorem w_PackedBits_number : Cond.code y_PackedBits_number prog_5_method_6_code 4 (some .int) ∈ kw_Ts := (kw_m3 (i := 101) (by decide +kernel) (by decide +kernel))
def y_PackedBits_placeOf : MethodName := ⟨"PictureFile$PackedBits", "placeOf", "(I)I"⟩
theorem w_PackedBits_placeOf : Cond.code y_PackedBits_placeOf prog_5_method_5_code 2 (some .int) ∈ kw_Ts := (kw_m3 (i := 105) (by decide +kernel) (by decide +kernel))
theorem fi_Unpacker_36 : kw_fi "PictureFile$Unpacker" 36 6 0 true := ⟨mmR_6, mmT_6, 13, rfl, rfl, by decide, mmI_6, mmY_6, mmN_6, rfl, (kw_m1 (i := 189) (by decide +kernel) (by decide +kernel))⟩
theorem mi_Unpacker_70 : kw_mi "PictureFile$Unpacker" 70 y_PackedBits_number prog_5_method_6_code 4 (some .int) 1 := ⟨(kw_m3 (i := 98) (by decide +kernel) (by decide +kernel)), w_PackedBits_number, in_PackedBits, by decide +kernel, by decide +kernel, by decide +kernel⟩
theorem v_PackedBits_number : Cond.instanceMethod y_PackedBits_number ∈ kw_Ts ∧ Cond.selects y_PackedBits_number.cls y_PackedBits_number y_PackedBits_number ∈ kw_Ts := ⟨(kw_m3 (i := 99) (by decide +kernel) (by decide +kernel)), (kw_m3 (i := 100) (by decide +kernel) (by decide +kernel))⟩
theorem fi_Unpacker_40 : kw_fi "PictureFile$Unpacker" 40 6 1 true := ⟨mmR_6, mmT_6, 13, rfl, rfl, by decide, mmI_6, mmY_6, mmN_6, rfl, (kw_m1 (i := 190) (by decide +kernel) (by decide +kernel))⟩
theorem mi_Unpacker_82 : kw_mi "PictureFile$Unpacker" 82 y_PackedBits_placeOf prog_5_method_5_code 2 (some .int) 1 := ⟨(kw_m3 (i := 102) (by decide +kernel) (by decide +kernel)), w_PackedBits_placeOf, in_PackedBits, by decide +kernel, by decide +kernel, by decide +kernel⟩
theorem v_PackedBits_placeOf : Cond.instanceMethod y_PackedBits_placeOf ∈ kw_Ts ∧ Cond.selects y_PackedBits_placeOf.cls y_PackedBits_placeOf y_PackedBits_placeOf ∈ kw_Ts := ⟨(kw_m3 (i := 103) (by decide +kernel) (by decide +kernel)), (kw_m3 (i := 104) (by decide +kernel) (by decide +kernel))⟩
theorem mi_Unpacker_85 : kw_mi "PictureFile$Unpacker" 85 y_Fault_refuse prog_3_method_3_code 3 (some .boolean) 2 := ⟨(kw_m3 (i := 106) (by decide +kernel) (by decide +kernel)), w_Fault_refuse, in_Fault, by decide +kernel, by decide +kernel, by decide +kernel⟩
theorem fi_Unpacker_91 : kw_fi "PictureFile$Unpacker" 91 6 12 false := ⟨mmR_6, mmT_6, 13, rfl, rfl, by decide, mmI_6, mmY_6, mmN_6, rfl, (kw_m1 (i := 201) (by decide +kernel) (by decide +kernel))⟩
def y_Unpacker_takeHead : MethodName := ⟨"PictureFile$Unpacker", "takeHead", "()Z"⟩
theorem w_Unpacker_takeHead : Cond.code y_Unpacker_takeHead prog_11_method_3_code 4 (some .boolean) ∈ kw_Ts := (kw_m3 (i := 97) (by decide +kernel) (by decide +kernel))
def y_PackedBits_leaveByte : MethodName := ⟨"PictureFile$PackedBits", "leaveByte", "()V"⟩
theorem w_PackedBits_leaveByte : Cond.code y_PackedBits_leaveByte prog_5_method_8_code 1 none ∈ kw_Ts := (kw_m3 (i := 119) (by decide +kernel) (by decide +kernel))
theorem fi_Unpacker_62 : kw_fi "PictureFile$Unpacker" 62 6 11 false := ⟨mmR_6, mmT_6, 13, rfl, rfl, by decide, mmI_6, mmY_6, mmN_6, rfl, (kw_m1 (i := 200) (by decide +kernel) (by decide +kernel))⟩
theorem fi_Unpacker_58 : kw_fi "PictureFile$Unpacker" 58 6 10 false := ⟨mmR_6, mmT_6, 13, rfl, rfl, by decide, mmI_6, mmY_6, mmN_6, rfl, (kw_m1 (i := 199) (by decide +kernel) (by decide +kernel))⟩
theorem fi_Unpacker_53 : kw_fi "PictureFile$Unpacker" 53 6 3 true := ⟨mmR_6, mmT_6, 13, rfl, rfl, by decide, mmI_6, mmY_6, mmN_6, rfl, (kw_m1 (i := 192) (by decide +kernel) (by decide +kernel))⟩
def y_Unpacker_putByte : MethodName := ⟨"PictureFile$Unpacker", "putByte", "(II)Z"⟩
theorem w_Unpacker_putByte : Cond.code y_Unpacker_putByte prog_11_method_6_code 3 (some .boolean) ∈ kw_Ts := (kw_m3 (i := 124) (by decide +kernel) (by decide +kernel))
theorem mi_Unpacker_107 : kw_mi "PictureFile$Unpacker" 107 y_PackedBits_leaveByte prog_5_method_8_code 1 none 0 := ⟨(kw_m3 (i := 116) (by decide +kernel) (by decide +kernel)), w_PackedBits_leaveByte, in_PackedBits, by decide +kernel, by decide +kernel, by decide +kernel⟩
theorem v_PackedBits_leaveByte : Cond.instanceMethod y_PackedBits_leaveByte ∈ kw_Ts ∧ Cond.selects y_PackedBits_leaveByte.cls y_PackedBits_leaveByte y_PackedBits_leaveByte ∈ kw_Ts := ⟨(kw_m3 (i := 117) (by decide +kernel) (by decide +kernel)), (kw_m3 (i := 118) (by decide +kernel) (by decide +kernel))⟩
theorem fi_Unpacker_94 : kw_fi "PictureFile$Unpacker" 94 4 5 false := ⟨mmR_4, mmT_4, 6, rfl, rfl, by decide, mmI_4, mmY_4, mmN_4, rfl, (kw_m1 (i := 105) (by decide +kernel) (by decide +kernel))⟩
theorem k_Unpacker_110 : Cond.constant "PictureFile$Unpacker" 110 65535 ∈ kw_Ts := (kw_m3 (i := 120) (by decide +kernel) (by decide +kernel))
theorem in_Unpacker : Cond.initialized "PictureFile$Unpacker" ∈ kw_Ts := (kw_m1 (i := 7) (by decide +kernel) (by decide +kernel))
theorem mi_Unpacker_111 : kw_mi "PictureFile$Unpacker" 111 y_Unpacker_putByte prog_11_method_6_code 3 (some .boolean) 2 := ⟨(kw_m3 (i := 121) (by decide +kernel) (by decide +kernel)), w_Unpacker_putByte, in_Unpacker, by decide +kernel, by decide +kernel, by decide +kernel⟩
theorem v_Unpacker_putByte : Cond.instanceMethod y_Unpacker_putByte ∈ kw_Ts ∧ Cond.selects y_Unpacker_putByte.cls y_Unpacker_putByte y_Unpacker_putByte ∈ kw_Ts := ⟨(kw_m3 (i := 123) (by decide +kernel) (by decide +kernel)), (kw_sel (i := 12) (by decide +kernel) (by decide +kernel))⟩
def y_Unpacker_takePlain : MethodName := ⟨"PictureFile$Unpacker", "takePlain", "()Z"⟩
theorem w_Unpacker_takePlain : Cond.code y_Unpacker_takePlain prog_11_method_5_code 6 (some .boolean) ∈ kw_Ts := (kw_m3 (i := 115) (by decide +kernel) (by decide +kernel))
theorem fi_PackedBits_47 : kw_fi "PictureFile$PackedBits" 47 7 4 false := ⟨mmR_7, mmT_7, 5, rfl, rfl, by decide, mmI_7, mmY_7, mmN_7, rfl, (kw_m1 (i := 170) (by decide +kernel) (by decide +kernel))⟩
theorem mi_PackedBits_62 : kw_mi "PictureFile$PackedBits" 62 y_PackedBits_placeOf prog_5_method_5_code 2 (some .int) 1 := ⟨(kw_m3 (i := 134) (by decide +kernel) (by decide +kernel)), w_PackedBits_placeOf, in_PackedBits, by decide +kernel, by decide +kernel, by decide +kernel⟩
theorem mi_PackedBits_65 : kw_mi "PictureFile$PackedBits" 65 y_Fault_refuse prog_3_method_3_code 3 (some .boolean) 2 := ⟨(kw_m3 (i := 135) (by decide +kernel) (by decide +kernel)), w_Fault_refuse, in_Fault, by decide +kernel, by decide +kernel, by decide +kernel⟩
theorem mi_PackedBits_52 : kw_mi "PictureFile$PackedBits" 52 y_PackedBits_number prog_5_method_6_code 4 (some .int) 1 := ⟨(kw_m3 (i := 133) (by decide +kernel) (by decide +kernel)), w_PackedBits_number, in_PackedBits, by decide +kernel, by decide +kernel, by decide +kernel⟩
theorem fi_PackedBits_56 : kw_fi "PictureFile$PackedBits" 56 7 0 true := ⟨mmR_7, mmT_7, 5, rfl, rfl, by decide, mmI_7, mmY_7, mmN_7, rfl, (kw_m1 (i := 163) (by decide +kernel) (by decide +kernel))⟩
theorem fi_PackedBits_59 : kw_fi "PictureFile$PackedBits" 59 7 1 true := ⟨mmR_7, mmT_7, 5, rfl, rfl, by decide, mmI_7, mmY_7, mmN_7, rfl, (kw_m1 (i := 165) (by decide +kernel) (by decide +kernel))⟩
def y_PackedBits_meaning : MethodName := ⟨"PictureFile$PackedBits", "meaning", "(LPictureFile$Codes;)I"⟩
theorem w_PackedBits_meaning : Cond.code y_PackedBits_meaning prog_5_method_7_code 9 (some .int) ∈ kw_Ts := (kw_m3 (i := 132) (by decide +kernel) (by decide +kernel))
/-! Pieces_isFit -/
def rm_Pieces_isFit : Room := { frames := 4, cells := 0, slots := 0, locals := 105 }
def F_Pieces_isFit (n : Nat) (t : Nat) (a0 : Int32) (σ : Mm) : Option (Int32 × Mm) :=
Option.bind (gR σ (64 * t + 0)) fun o1 =>
kf_c2 (F_Tape_number n o1 (a0 + 4) σ) fun x2 σ3 =>
Option.bind (gR σ3 (64 * t + 0)) fun o4 =>
kf_c2 (F_Tape_number n o4 a0 σ3) fun x5 σ6 =>
kf_c2 (F_Pieces_mayStand n t x2 σ6) fun x7 σ8 =>
if x7 = 0 then (
Option.bind (gR σ8 (64 * t + 1)) fun o43 =>
kf_c2 (F_Fault_refuse n o43 6 (a0 + 4) σ8) fun x44 σ45 =>
kf_z x44 (some (x44, σ45))) else (
if x2 = 1229209940 then (
kf_c2 (F_Pieces_takeData n t a0 x5 σ8) fun x9 σ10 =>
kf_z x9 (some (x9, σ10))) else (
if x2 = 1229278788 then (
kf_j (α := Int32) (fun x13 σ14 =>
kf_z x13 (some (x13, σ14))) fun k12 =>
kf_j (α := Unit) (fun x16 σ17 =>
k12 1 σ17) fun k15 =>
if x5 = 0 then (
k15 () σ8) else (
Option.bind (gR σ8 (64 * t + 1)) fun o18 =>
kf_c2 (F_Fault_refuse n o18 8 a0 σ8) fun x19 σ20 =>
if x19 = 0 then (
k12 0 σ20) else (
k15 () σ20))) else (
if x2 = 1229472850 then (
kf_c2 (F_Pieces_takeHeader n t a0 x5 σ8) fun x22 σ23 =>
kf_z x22 (some (x22, σ23))) else (
if x2 = 1347179589 then (
kf_c2 (F_Pieces_takeColours n t a0 x5 σ8) fun x25 σ26 =>
kf_z x25 (some (x25, σ26))) else (
if x2 = 1951551059 then (
kf_c2 (F_Pieces_takeThins n t a0 x5 σ8) fun x28 σ29 =>
kf_z x28 (some (x28, σ29))) else (
Option.bind (gR σ8 (64 * t + 0)) fun o31 =>
Option.bind (gR σ8 (64 * o31 + 0)) fun o32 =>
kf_let (a0 + 4 : Int32) fun x33 =>
kf_in x33 (mm_kd o32).2.2 <|
kf_j (α := Int32) (fun x35 σ36 =>
kf_z x35 (some (x35, σ36))) fun k34 =>
kf_j (α := Unit) (fun x38 σ39 =>
k34 1 σ39) fun k37 =>
if 97 ≤ (gB σ8 o32 x33.toNatClampNeg) then (
k37 () σ8) else (
Option.bind (gR σ8 (64 * t + 1)) fun o40 =>
kf_c2 (F_Fault_refuse n o40 7 (a0 + 4) σ8) fun x41 σ42 =>
if x41 = 0 then (
k34 0 σ42) else (
k37 () σ42))))))))
theorem d_Pieces_isFit_0 : decode prog_8_method_5_code 0 = .ok (.aload_n 0, 1) := by decide +kernel
theorem d_Pieces_isFit_1 : decode prog_8_method_5_code 1 = .ok (.getfield 9, 3) := by decide +kernel
theorem d_Pieces_isFit_4 : decode prog_8_method_5_code 4 = .ok (.iload_n 1, 1) := by decide +kernel
theorem d_Pieces_isFit_5 : decode prog_8_method_5_code 5 = .ok (.iconst 4, 1) := by decide +kernel
theorem d_Pieces_isFit_6 : decode prog_8_method_5_code 6 = .ok (.iadd, 1) := by decide +kernel
theorem d_Pieces_isFit_7 : decode prog_8_method_5_code 7 = .ok (.invokevirtual 73, 3) := by decide +kernel
theorem d_Pieces_isFit_10 : decode prog_8_method_5_code 10 = .ok (.istore_n 2, 1) := by decide +kernel
theorem d_Pieces_isFit_11 : decode prog_8_method_5_code 11 = .ok (.aload_n 0, 1) := by decide +kernel
theorem d_Pieces_isFit_12 : decode prog_8_method_5_code 12 = .ok (.getfield 9, 3) := by decide +kernel
theorem d_Pieces_isFit_15 : decode prog_8_method_5_code 15 = .ok (.iload_n 1, 1) := by decide +kernel
theorem d_Pieces_isFit_16 : decode prog_8_method_5_code 16 = .ok (.invokevirtual 73, 3) := by decide +kernel
theorem d_Pieces_isFit_19 : decode prog_8_method_5_code 19 = .ok (.istore_n 3, 1) := by decide +kernel
theorem d_Pieces_isFit_20 : decode prog_8_method_5_code 20 = .ok (.aload_n 0, 1) := by decide +kernel
theorem d_Pieces_isFit_21 : decode prog_8_method_5_code 21 = .ok (.iload_n 2, 1) := by decide +kernel
theorem d_Pieces_isFit_22 : decode prog_8_method_5_code 22 = .ok (.invokevirtual 84, 3) := by decide +kernel
theorem d_Pieces_isFit_25 : decode prog_8_method_5_code 25 = .ok (.ifCond .ne 16, 3) := by decide +kernel
theorem d_Pieces_isFit_28 : decode prog_8_method_5_code 28 = .ok (.aload_n 0, 1) := by decide +kernel
theorem d_Pieces_isFit_29 : decode prog_8_method_5_code 29 = .ok (.getfield 15, 3) := by decide +kernel
theorem d_Pieces_isFit_32 : decode prog_8_method_5_code 32 = .ok (.bipush 6, 2) := by decide +kernel
theorem d_Pieces_isFit_34 : decode prog_8_method_5_code 34 = .ok (.iload_n 1, 1) := by decide +kernel
theorem d_Pieces_isFit_35 : decode prog_8_method_5_code 35 = .ok (.iconst 4, 1) := by decide +kernel
theorem d_Pieces_isFit_36 : decode prog_8_method_5_code 36 = .ok (.iadd, 1) := by decide +kernel
theorem d_Pieces_isFit_37 : decode prog_8_method_5_code 37 = .ok (.invokevirtual 58, 3) := by decide +kernel
theorem d_Pieces_isFit_40 : decode prog_8_method_5_code 40 = .ok (.ireturn, 1) := by decide +kernel
theorem d_Pieces_isFit_41 : decode prog_8_method_5_code 41 = .ok (.iload_n 2, 1) := by decide +kernel
theorem d_Pieces_isFit_42 : decode prog_8_method_5_code 42 = .ok (.lookupswitch 101 #[(1229209940, 71), (1229278788, 78), (1229472850, 50), (1347179589, 57), (1951551059, 64)], 50) := by decide +kernel
theorem d_Pieces_isFit_92 : decode prog_8_method_5_code 92 = .ok (.aload_n 0, 1) := by decide +kernel
theorem d_Pieces_isFit_93 : decode prog_8_method_5_code 93 = .ok (.iload_n 1, 1) := by decide +kernel
theorem d_Pieces_isFit_94 : decode prog_8_method_5_code 94 = .ok (.iload_n 3, 1) := by decide +kernel
theorem d_Pieces_isFit_95 : decode prog_8_method_5_code 95 = .ok (.invokevirtual 87, 3) := by decide +kernel
theorem d_Pieces_isFit_98 : decode prog_8_method_5_code 98 = .ok (.ireturn, 1) := by decide +kernel
theorem d_Pieces_isFit_99 : decode prog_8_method_5_code 99 = .ok (.aload_n 0, 1) := by decide +kernel
theorem d_Pieces_isFit_100 : decode prog_8_method_5_code 100 = .ok (.iload_n 1, 1) := by decide +kernel
theorem d_Pieces_isFit_101 : decode prog_8_method_5_code 101 = .ok (.iload_n 3, 1) := by decide +kernel
theorem d_Pieces_isFit_102 : decode prog_8_method_5_code 102 = .ok (.invokevirtual 90, 3) := by decide +kernel
theorem d_Pieces_isFit_105 : decode prog_8_method_5_code 105 = .ok (.ireturn, 1) := by decide +kernel
theorem d_Pieces_isFit_106 : decode prog_8_method_5_code 106 = .ok (.aload_n 0, 1) := by decide +kernel
theorem d_Pieces_isFit_107 : decode prog_8_method_5_code 107 = .ok (.iload_n 1, 1) := by decide +kernel
theorem d_Pieces_isFit_108 : decode prog_8_method_5_code 108 = .ok (.iload_n 3, 1) := by decide +kernel
theorem d_Pieces_isFit_109 : decode prog_8_method_5_code 109 = .ok (.invokevirtual 93, 3) := by decide +kernel
theorem d_Pieces_isFit_112 : decode prog_8_method_5_code 112 = .ok (.ireturn, 1) := by decide +kernel
theorem d_Pieces_isFit_113 : decode prog_8_method_5_code 113 = .ok (.aload_n 0, 1) := by decide +kernel
theorem d_Pieces_isFit_114 : decode prog_8_method_5_code 114 = .ok (.iload_n 1, 1) := by decide +kernel
theorem d_Pieces_isFit_115 : decode prog_8_method_5_code 115 = .ok (.iload_n 3, 1) := by decide +kernel
theorem d_Pieces_isFit_116 : decode prog_8_method_5_code 116 = .ok (.invokevirtual 96, 3) := by decide +kernel
theorem d_Pieces_isFit_119 : decode prog_8_method_5_code 119 = .ok (.ireturn, 1) := by decide +kernel
theorem d_Pieces_isFit_120 : decode prog_8_method_5_code 120 = .ok (.iload_n 3, 1) := by decide +kernel
theorem d_Pieces_isFit_121 : decode prog_8_method_5_code 121 = .ok (.ifCond .eq 16, 3) := by decide +kernel
theorem d_Pieces_isFit_124 : decode prog_8_method_5_code 124 = .ok (.aload_n 0, 1) := by decide +kernel
theorem d_Pieces_isFit_125 : decode prog_8_method_5_code 125 = .ok (.getfield 15, 3) := by decide +kernel
theorem d_Pieces_isFit_128 : decode prog_8_method_5_code 128 = .ok (.bipush 8, 2) := by decide +kernel
theorem d_Pieces_isFit_130 : decode prog_8_method_5_code 130 = .ok (.iload_n 1, 1) := by decide +kernel
theorem d_Pieces_isFit_131 : decode prog_8_method_5_code 131 = .ok (.invokevirtual 58, 3) := by decide +kernel
theorem d_Pieces_isFit_134 : decode prog_8_method_5_code 134 = .ok (.ifCond .eq 7, 3) := by decide +kernel
theorem d_Pieces_isFit_137 : decode prog_8_method_5_code 137 = .ok (.iconst 1, 1) := by decide +kernel
theorem d_Pieces_isFit_138 : decode prog_8_method_5_code 138 = .ok (.goto 4, 3) := by decide +kernel
theorem d_Pieces_isFit_141 : decode prog_8_method_5_code 141 = .ok (.iconst 0, 1) := by decide +kernel
theorem d_Pieces_isFit_142 : decode prog_8_method_5_code 142 = .ok (.ireturn, 1) := by decide +kernel
theorem d_Pieces_isFit_143 : decode prog_8_method_5_code 143 = .ok (.aload_n 0, 1) := by decide +kernel
theorem d_Pieces_isFit_144 : decode prog_8_method_5_code 144 = .ok (.getfield 9, 3) := by decide +kernel
theorem d_Pieces_isFit_147 : decode prog_8_method_5_code 147 = .ok (.getfield 55, 3) := by decide +kernel
theorem d_Pieces_isFit_150 : decode prog_8_method_5_code 150 = .ok (.iload_n 1, 1) := by decide +kernel
theorem d_Pieces_isFit_151 : decode prog_8_method_5_code 151 = .ok (.iconst 4, 1) := by decide +kernel
theorem d_Pieces_isFit_152 : decode prog_8_method_5_code 152 = .ok (.iadd, 1) := by decide +kernel
theorem d_Pieces_isFit_153 : decode prog_8_method_5_code 153 = .ok (.iaload, 1) := by decide +kernel
theorem d_Pieces_isFit_154 : decode prog_8_method_5_code 154 = .ok (.bipush 97, 2) := by decide +kernel
theorem d_Pieces_isFit_156 : decode prog_8_method_5_code 156 = .ok (.if_icmp .ge 18, 3) := by decide +kernel
theorem d_Pieces_isFit_159 : decode prog_8_method_5_code 159 = .ok (.aload_n 0, 1) := by decide +kernel
theorem d_Pieces_isFit_160 : decode prog_8_method_5_code 160 = .ok (.getfield 15, 3) := by decide +kernel
theorem d_Pieces_isFit_163 : decode prog_8_method_5_code 163 = .ok (.bipush 7, 2) := by decide +kernel
theorem d_Pieces_isFit_165 : decode prog_8_method_5_code 165 = .ok (.iload_n 1, 1) := by decide +kernel
theorem d_Pieces_isFit_166 : decode prog_8_method_5_code 166 = .ok (.iconst 4, 1) := by decide +kernel
theorem d_Pieces_isFit_167 : decode prog_8_method_5_code 167 = .ok (.iadd, 1) := by decide +kernel
theorem d_Pieces_isFit_168 : decode prog_8_method_5_code 168 = .ok (.invokevirtual 58, 3) := by decide +kernel
theorem d_Pieces_isFit_171 : decode prog_8_method_5_code 171 = .ok (.ifCond .eq 7, 3) := by decide +kernel
theorem d_Pieces_isFit_174 : decode prog_8_method_5_code 174 = .ok (.iconst 1, 1) := by decide +kernel
theorem d_Pieces_isFit_175 : decode prog_8_method_5_code 175 = .ok (.goto 4, 3) := by decide +kernel
theorem d_Pieces_isFit_178 : decode prog_8_method_5_code 178 = .ok (.iconst 0, 1) := by decide +kernel
theorem d_Pieces_isFit_179 : decode prog_8_method_5_code 179 = .ok (.ireturn, 1) := by decide +kernel
set_option maxRecDepth 100000 in
set_option maxHeartbeats 4000000 in
theorem c_Pieces_isFit {l0 : Launch} (hl : l0.stackTraces = false) (n : Nat) (ids : List Nat) {t : Nat} (ht : mm_ok ids t 1 5) (a0 : Int32) (σ : Mm) : kw_C l0 y_Pieces_isFit (Cond.code y_Pieces_isFit prog_8_method_5_code 4 (some .boolean) :: kw_Ts) rm_Pieces_isFit kw_oi ids [] [.ref t, .int a0] σ (F_Pieces_isFit n t a0 σ) := by
  refine kw_start (L0 := [some (.ref t), some (.int a0), none, none]) hl (by decide +kernel) (Nat.le_of_ble_eq_true rfl) rfl (fun Γ ad C Ce => ?_)
  unfold F_Pieces_isFit
  refine kw_aload_n C d_Pieces_isFit_0 rfl ?_
  refine kw_getR C fi_Pieces_9 rfl rfl ht d_Pieces_isFit_1 (fun o1 ho1 => ?_)
  refine kw_iload_n C d_Pieces_isFit_4 rfl ?_
  refine kw_iconst (v := 4) C d_Pieces_isFit_5 (by decide) ?_
  refine kw_iadd C d_Pieces_isFit_6 ?_
  refine kw_callVi (cl' := 0) (sl' := 0) (As := [.int (a0 + 4)]) C (c_Tape_number hl n ids ho1 (a0 + 4) σ) mi_Pieces_73 v_Tape_number ⟨_, _, rfl⟩ ho1 ⟨Nat.le_of_ble_eq_true rfl, Nat.le_of_ble_eq_true rfl⟩ (Nat.le_of_ble_eq_true rfl) ⟨Nat.le_of_ble_eq_true rfl, Nat.le_of_ble_eq_true rfl⟩ ⟨rfl, rfl⟩ rfl d_Pieces_isFit_7 (fun x2 σ3 => ?_)
  refine kw_istore_n (L' := [some (.ref t), some (.int a0), some (.int x2), none]) C d_Pieces_isFit_10 (by decide) rfl ?_
  refine kw_aload_n C d_Pieces_isFit_11 rfl ?_
  refine kw_getR C fi_Pieces_9 rfl rfl ht d_Pieces_isFit_12 (fun o4 ho4 => ?_)
  refine kw_iload_n C d_Pieces_isFit_15 rfl ?_
  refine kw_callVi (cl' := 0) (sl' := 0) (As := [.int a0]) C (c_Tape_number hl n ids ho4 a0 σ3) mi_Pieces_73 v_Tape_number ⟨_, _, rfl⟩ ho4 ⟨Nat.le_of_ble_eq_true rfl, Nat.le_of_ble_eq_true rfl⟩ (Nat.le_of_ble_eq_true rfl) ⟨Nat.le_of_ble_eq_true rfl, Nat.le_of_ble_eq_true rfl⟩ ⟨rfl, rfl⟩ rfl d_Pieces_isFit_16 (fun x5 σ6 => ?_)
  refine kw_istore_n (L' := [some (.ref t), some (.int a0), some (.int x2), some (.int x5)]) C d_Pieces_isFit_19 (by decide) rfl ?_
  refine kw_aload_n C d_Pieces_isFit_20 rfl ?_
  refine kw_iload_n C d_Pieces_isFit_21 rfl ?_
  refine kw_callVi (cl' := 0) (sl' := 0) (As := [.int x2]) C (c_Pieces_mayStand hl n ids ht x2 σ6) mi_Pieces_84 v_Pieces_mayStand ⟨_, _, rfl⟩ ht ⟨Nat.le_of_ble_eq_true rfl, Nat.le_of_ble_eq_true rfl⟩ (Nat.le_of_ble_eq_true rfl) ⟨Nat.le_of_ble_eq_true rfl, Nat.le_of_ble_eq_true rfl⟩ ⟨rfl, rfl⟩ rfl d_Pieces_isFit_22 (fun x7 σ8 => ?_)
  refine kw_if_ne (tgt := 41) C d_Pieces_isFit_25 (by decide) ?_ ?_
  · refine kw_iload_n C d_Pieces_isFit_41 rfl ?_
    refine kw_sw ?_ (fun hn11 => ?_)
    · refine kw_lsw (off := 71) (tgt := 113) C d_Pieces_isFit_42 (by decide) (by decide) (by decide) ?_
      refine kw_aload_n C d_Pieces_isFit_113 rfl ?_
      refine kw_iload_n C d_Pieces_isFit_114 rfl ?_
      refine kw_iload_n C d_Pieces_isFit_115 rfl ?_
      refine kw_callVi (cl' := 0) (sl' := 0) (As := [.int a0, .int x5]) C (c_Pieces_takeData hl n ids ht a0 x5 σ8) mi_Pieces_96 v_Pieces_takeData ⟨_, _, rfl⟩ ht ⟨Nat.le_of_ble_eq_true rfl, Nat.le_of_ble_eq_true rfl⟩ (Nat.le_of_ble_eq_true rfl) ⟨Nat.le_of_ble_eq_true rfl, Nat.le_of_ble_eq_true rfl⟩ ⟨rfl, rfl⟩ rfl d_Pieces_isFit_116 (fun x9 σ10 => ?_)
      exact kw_zret C Ce rfl (by simp) (fun _ _ => rfl) (Nat.le_of_ble_eq_true rfl) (Nat.le_of_ble_eq_true rfl) rfl d_Pieces_isFit_119
    refine kw_sw ?_ (fun hn21 => ?_)
    · refine kw_lsw (off := 78) (tgt := 120) C d_Pieces_isFit_42 (by decide) (by decide) (by decide) ?_
      refine kw_iload_n C d_Pieces_isFit_120 rfl ?_
      refine kw_j (α := Int32) (pcj := 142) (Lj := fun x13 => [none, none, none, none]) (stj := fun x13 => [.int x13]) (fun x13 σ14 => ?_) (fun k12 hk12 => ?_)
      · exact kw_zret C Ce rfl (by simp) (fun _ _ => rfl) (Nat.le_of_ble_eq_true rfl) (Nat.le_of_ble_eq_true rfl) rfl d_Pieces_isFit_142
      · refine kw_j (α := Unit) (pcj := 137) (Lj := fun x16 => [none, none, none, none]) (stj := fun x16 => []) (fun x16 σ17 => ?_) (fun k15 hk15 => ?_)
        · refine kw_iconst (v := 1) C d_Pieces_isFit_137 (by decide) ?_
          refine kw_goto (tgt := 142) C d_Pieces_isFit_138 (by decide) ?_
          exact kw_wk (hk12 1 σ17) ⟨Or.inl rfl, Or.inl rfl, Or.inl rfl, Or.inl rfl, trivial⟩
        · refine kw_if_eq (tgt := 137) C d_Pieces_isFit_121 (by decide) ?_ ?_
          · exact kw_wk (hk15 () σ8) ⟨Or.inl rfl, Or.inl rfl, Or.inl rfl, Or.inl rfl, trivial⟩
          · refine kw_aload_n C d_Pieces_isFit_124 rfl ?_
            refine kw_getR C fi_Pieces_15 rfl rfl ht d_Pieces_isFit_125 (fun o18 ho18 => ?_)
            refine kw_bipush (v := 8) C d_Pieces_isFit_128 (by decide) ?_
            refine kw_iload_n C d_Pieces_isFit_130 rfl ?_
            refine kw_callVi (cl' := 0) (sl' := 0) (As := [.int 8, .int a0]) C (c_Fault_refuse hl n ids ho18 8 a0 σ8) mi_Pieces_58 v_Fault_refuse ⟨_, _, rfl⟩ ho18 ⟨Nat.le_of_ble_eq_true rfl, Nat.le_of_ble_eq_true rfl⟩ (Nat.le_of_ble_eq_true rfl) ⟨Nat.le_of_ble_eq_true rfl, Nat.le_of_ble_eq_true rfl⟩ ⟨rfl, rfl⟩ rfl d_Pieces_isFit_131 (fun x19 σ20 => ?_)
            refine kw_if_eq (tgt := 141) C d_Pieces_isFit_134 (by decide) ?_ ?_
            · refine kw_iconst (v := 0) C d_Pieces_isFit_141 (by decide) ?_
              exact kw_wk (hk12 0 σ20) ⟨Or.inl rfl, Or.inl rfl, Or.inl rfl, Or.inl rfl, trivial⟩
            · exact kw_wk (hk15 () σ20) ⟨Or.inl rfl, Or.inl rfl, Or.inl rfl, Or.inl rfl, trivial⟩
    refine kw_sw ?_ (fun hn24 => ?_)
    · refine kw_lsw (off := 50) (tgt := 92) C d_Pieces_isFit_42 (by decide) (by decide) (by decide) ?_
      refine kw_aload_n C d_Pieces_isFit_92 rfl ?_
      refine kw_iload_n C d_Pieces_isFit_93 rfl ?_
      refine kw_iload_n C d_Pieces_isFit_94 rfl ?_
      refine kw_callVi (cl' := 0) (sl' := 0) (As := [.int a0, .int x5]) C (c_Pieces_takeHeader hl n ids ht a0 x5 σ8) mi_Pieces_87 v_Pieces_takeHeader ⟨_, _, rfl⟩ ht ⟨Nat.le_of_ble_eq_true rfl, Nat.le_of_ble_eq_true rfl⟩ (Nat.le_of_ble_eq_true rfl) ⟨Nat.le_of_ble_eq_true rfl, Nat.le_of_ble_eq_true rfl⟩ ⟨rfl, rfl⟩ rfl d_Pieces_isFit_95 (fun x22 σ23 => ?_)
      exact kw_zret C Ce rfl (by simp) (fun _ _ => rfl) (Nat.le_of_ble_eq_true rfl) (Nat.le_of_ble_eq_true rfl) rfl d_Pieces_isFit_98
    refine kw_sw ?_ (fun hn27 => ?_)
    · refine kw_lsw (off := 57) (tgt := 99) C d_Pieces_isFit_42 (by decide) (by decide) (by decide) ?_
      refine kw_aload_n C d_Pieces_isFit_99 rfl ?_
      refine kw_iload_n C d_Pieces_isFit_100 rfl ?_
      refine kw_iload_n C d_Pieces_isFit_101 rfl ?_
      refine kw_callVi (cl' := 0) (sl' := 0) (As := [.int a0, .int x5]) C (c_Pieces_takeColours hl n ids ht a0 x5 σ8) mi_Pieces_90 v_Pieces_takeColours ⟨_, _, rfl⟩ ht ⟨Nat.le_of_ble_eq_true rfl, Nat.le_of_ble_eq_true rfl⟩ (Nat.le_of_ble_eq_true rfl) ⟨Nat.le_of_ble_eq_true rfl, Nat.le_of_ble_eq_true rfl⟩ ⟨rfl, rfl⟩ rfl d_Pieces_isFit_102 (fun x25 σ26 => ?_)
      exact kw_zret C Ce rfl (by simp) (fun _ _ => rfl) (Nat.le_of_ble_eq_true rfl) (Nat.le_of_ble_eq_true rfl) rfl d_Pieces_isFit_105
    refine kw_sw ?_ (fun hn30 => ?_)
    · refine kw_lsw (off := 64) (tgt := 106) C d_Pieces_isFit_42 (by decide) (by decide) (by decide) ?_
      refine kw_aload_n C d_Pieces_isFit_106 rfl ?_
      refine kw_iload_n C d_Pieces_isFit_107 rfl ?_
      refine kw_iload_n C d_Pieces_isFit_108 rfl ?_
      refine kw_callVi (cl' := 0) (sl' := 0) (As := [.int a0, .int x5]) C (c_Pieces_takeThins hl n ids ht a0 x5 σ8) mi_Pieces_93 v_Pieces_takeThins ⟨_, _, rfl⟩ ht ⟨Nat.le_of_ble_eq_true rfl, Nat.le_of_ble_eq_true rfl⟩ (Nat.le_of_ble_eq_true rfl) ⟨Nat.le_of_ble_eq_true rfl, Nat.le_of_ble_eq_true rfl⟩ ⟨rfl, rfl⟩ rfl d_Pieces_isFit_109 (fun x28 σ29 => ?_)
      exact kw_zret C Ce rfl (by simp) (fun _ _ => rfl) (Nat.le_of_ble_eq_true rfl) (Nat.le_of_ble_eq_true rfl) rfl d_Pieces_isFit_112
    · refine kw_lsw (off := 101) (tgt := 143) C d_Pieces_isFit_42 (by decide) (by rw [lv_osw hn11 (by decide)]; rw [lv_osw hn21 (by decide)]; rw [lv_osw hn24 (by decide)]; rw [lv_osw hn27 (by decide)]; rw [lv_osw hn30 (by decide)]; rfl) (by decide) ?_
      refine kw_aload_n C d_Pieces_isFit_143 rfl ?_
      refine kw_getR C fi_Pieces_9 rfl rfl ht d_Pieces_isFit_144 (fun o31 ho31 => ?_)
      refine kw_getR C fi_Pieces_55 rfl rfl ho31 d_Pieces_isFit_147 (fun o32 ho32 => ?_)
      refine kw_iload_n C d_Pieces_isFit_150 rfl ?_
      refine kw_iconst (v := 4) C d_Pieces_isFit_151 (by decide) ?_
      refine kw_iadd C d_Pieces_isFit_152 ?_
      refine kw_leti (fun x33 => ?_)
      refine kw_iald C (Or.inl ⟨ho32.1, ho32.2.1⟩) d_Pieces_isFit_153 ?_
      refine kw_bipush (v := 97) C d_Pieces_isFit_154 (by decide) ?_
      refine kw_j (α := Int32) (pcj := 179) (Lj := fun x35 => [none, none, none, none]) (stj := fun x35 => [.int x35]) (fun x35 σ36 => ?_) (fun k34 hk34 => ?_)
      · exact kw_zret C Ce rfl (by simp) (fun _ _ => rfl) (Nat.le_of_ble_eq_true rfl) (Nat.le_of_ble_eq_true rfl) rfl d_Pieces_isFit_179
      · refine kw_j (α := Unit) (pcj := 174) (Lj := fun x38 => [none, none, none, none]) (stj := fun x38 => []) (fun x38 σ39 => ?_) (fun k37 hk37 => ?_)
        · refine kw_iconst (v := 1) C d_Pieces_isFit_174 (by decide) ?_
          refine kw_goto (tgt := 179) C d_Pieces_isFit_175 (by decide) ?_
          exact kw_wk (hk34 1 σ39) ⟨Or.inl rfl, Or.inl rfl, Or.inl rfl, Or.inl rfl, trivial⟩
        · refine kw_icmp_ge (tgt := 174) C d_Pieces_isFit_156 (by decide) ?_ ?_
          · exact kw_wk (hk37 () σ8) ⟨Or.inl rfl, Or.inl rfl, Or.inl rfl, Or.inl rfl, trivial⟩
          · refine kw_aload_n C d_Pieces_isFit_159 rfl ?_
            refine kw_getR C fi_Pieces_15 rfl rfl ht d_Pieces_isFit_160 (fun o40 ho40 => ?_)
            refine kw_bipush (v := 7) C d_Pieces_isFit_163 (by decide) ?_
            refine kw_iload_n C d_Pieces_isFit_165 rfl ?_
            refine kw_iconst (v := 4) C d_Pieces_isFit_166 (by decide) ?_
            refine kw_iadd C d_Pieces_isFit_167 ?_
            refine kw_callVi (cl' := 0) (sl' := 0) (As := [.int 7, .int (a0 + 4)]) C (c_Fault_refuse hl n ids ho40 7 (a0 + 4) σ8) mi_Pieces_58 v_Fault_refuse ⟨_, _, rfl⟩ ho40 ⟨Nat.le_of_ble_eq_true rfl, Nat.le_of_ble_eq_true rfl⟩ (Nat.le_of_ble_eq_true rfl) ⟨Nat.le_of_ble_eq_true rfl, Nat.le_of_ble_eq_true rfl⟩ ⟨rfl, rfl⟩ rfl d_Pieces_isFit_168 (fun x41 σ42 => ?_)
            refine kw_if_eq (tgt := 178) C d_Pieces_isFit_171 (by decide) ?_ ?_
            · refine kw_iconst (v := 0) C d_Pieces_isFit_178 (by decide) ?_
              exact kw_wk (hk34 0 σ42) ⟨Or.inl rfl, Or.inl rfl, Or.inl rfl, Or.inl rfl, trivial⟩
            · exact kw_wk (hk37 () σ42) ⟨Or.inl rfl, Or.inl rfl, Or.inl rfl, Or.inl rfl, trivial⟩
  · refine kw_aload_n C d_Pieces_isFit_28 rfl ?_
    refine kw_getR C fi_Pieces_15 rfl rfl ht d_Pieces_isFit_29 (fun o43 ho43 => ?_)
    refine kw_bipush (v := 6) C d_Pieces_isFit_32 (by decide) ?_
    refine kw_iload_n C d_Pieces_isFit_34 rfl ?_
    refine kw_iconst (v := 4) C d_Pieces_isFit_35 (by decide) ?_
    refine kw_iadd C d_Pieces_isFit_36 ?_
    refine kw_callVi (cl' := 0) (sl' := 0) (As := [.int 6, .int (a0 + 4)]) C (c_Fault_refuse hl n ids ho43 6 (a0 + 4) σ8) mi_Pieces_58 v_Fault_refuse ⟨_, _, rfl⟩ ho43 ⟨Nat.le_of_ble_eq_true rfl, Nat.le_of_ble_eq_true rfl⟩ (Nat.le_of_ble_eq_true rfl) ⟨Nat.le_of_ble_eq_true rfl, Nat.le_of_ble_eq_true rfl⟩ ⟨rfl, rfl⟩ rfl d_Pieces_isFit_37 (fun x44 σ45 => ?_)
    exact kw_zret C Ce rfl (by simp) (fun _ _ => rfl) (Nat.le_of_ble_eq_true rfl) (Nat.le_of_ble_eq_true rfl) rfl d_Pieces_isFit_40
/-! Pieces_walk -/
def rm_Pieces_walk : Room := { frames := 5, cells := 0, slots := 0, locals := 128 }
def F_Pieces_walk (n : Nat) (t : Nat) (r0 : Nat) (σ : Mm) : Option (Int32 × Mm) :=
kf_let (pR σ (64 * t + 3) (some r0)) fun σ1 =>
kf_let (pS σ1 (64 * t + 4) 0) fun σ2 =>
kf_z 0 <| kf_let (pS σ2 (64 * t + 5) 0) fun σ3 =>
kf_z 0 <| kf_let (pS σ3 (64 * t + 6) 0) fun σ4 =>
kf_z 0 <| kf_let (pS σ4 (64 * t + 7) 0) fun σ5 =>
Option.bind (gR σ5 (64 * t + 2)) fun o6 =>
Option.bind (F_PackedBits_clear n o6 σ5) fun σ7 =>
kf_l (α := Int32) n (fun k8 x9 σ10 =>
if (Int32.ofNat (mm_kd 100).2.2) ≤ x9 then (
kf_let (Int32.ofNat (mm_kd 100).2.2 : Int32) fun x11 =>
kf_l (α := Int32 × Int32) n (fun k12 x13 σ14 =>
kf_j (α := Unit) (fun x16 σ17 =>
Option.bind (gR σ17 (64 * t + 0)) fun o18 =>
kf_j (α := Int32) (fun x20 σ21 =>
kf_z x20 (some (x20, σ21))) fun k19 =>
kf_j (α := Unit) (fun x23 σ24 =>
k19 1 σ24) fun k22 =>
if (gS σ17 (64 * o18 + 1)) ≤ x13.1 then (
k22 () σ17) else (
Option.bind (gR σ17 (64 * t + 1)) fun o25 =>
kf_c2 (F_Fault_refuse n o25 11 x13.1 σ17) fun x26 σ27 =>
if x26 = 0 then (
k19 0 σ27) else (
k22 () σ27))) fun k15 =>
if 65536 ≤ x13.2 then (
k15 () σ14) else (
if (gS σ14 (64 * t + 4)) = 1229278788 then (
k15 () σ14) else (
kf_c2 (F_Pieces_isWhole n t x13.1 σ14) fun x28 σ29 =>
kf_j (α := Unit) (fun x31 σ32 =>
kf_z 0 (some (0, σ32))) fun k30 =>
if x28 = 0 then (
k30 () σ29) else (
kf_c2 (F_Pieces_isFit n t x13.1 σ29) fun x33 σ34 =>
if x33 = 0 then (
k30 () σ34) else (
Option.bind (gR σ34 (64 * t + 0)) fun o35 =>
kf_c2 (F_Tape_number n o35 (x13.1 + 4) σ34) fun x36 σ37 =>
kf_let (pS σ37 (64 * t + 4) x36) fun σ38 =>
Option.bind (gR σ38 (64 * t + 0)) fun o39 =>
kf_c2 (F_Tape_number n o39 x13.1 σ38) fun x40 σ41 =>
kf_let (x13.1 + ((12 : Int32) + x40) : Int32) fun x42 =>
kf_let (x13.2 + Int32.ofInt 1) fun x43 =>
k12 (x42, x43) σ41))))) (x11, 0) σ10) else (
Option.bind (gR σ10 (64 * t + 0)) fun o44 =>
kf_j (α := Unit) (fun x46 σ47 =>
Option.bind (gR σ47 (64 * t + 1)) fun o48 =>
kf_c2 (F_Fault_refuse n o48 1 x9 σ47) fun x49 σ50 =>
kf_z x49 (some (x49, σ50))) fun k45 =>
if (gS σ10 (64 * o44 + 1)) ≤ x9 then (
k45 () σ10) else (
Option.bind (gR σ10 (64 * t + 0)) fun o51 =>
Option.bind (gR σ10 (64 * o51 + 0)) fun o52 =>
kf_in x9 (mm_kd o52).2.2 <|
kf_in x9 (mm_kd 100).2.2 <|
if (gB σ10 o52 x9.toNatClampNeg) = (gB σ10 100 x9.toNatClampNeg) then (
kf_let (x9 + Int32.ofInt 1) fun x53 =>
k8 x53 σ10) else (
k45 () σ10)))) 0 σ7
theorem d_Pieces_walk_0 : decode prog_8_method_2_code 0 = .ok (.aload_n 0, 1) := by decide +kernel
theorem d_Pieces_walk_1 : decode prog_8_method_2_code 1 = .ok (.aload_n 1, 1) := by decide +kernel
theorem d_Pieces_walk_2 : decode prog_8_method_2_code 2 = .ok (.putfield 23, 3) := by decide +kernel
theorem d_Pieces_walk_5 : decode prog_8_method_2_code 5 = .ok (.aload_n 0, 1) := by decide +kernel
theorem d_Pieces_walk_6 : decode prog_8_method_2_code 6 = .ok (.iconst 0, 1) := by decide +kernel
theorem d_Pieces_walk_7 : decode prog_8_method_2_code 7 = .ok (.putfield 27, 3) := by decide +kernel
theorem d_Pieces_walk_10 : decode prog_8_method_2_code 10 = .ok (.aload_n 0, 1) := by decide +kernel
theorem d_Pieces_walk_11 : decode prog_8_method_2_code 11 = .ok (.iconst 0, 1) := by decide +kernel
theorem d_Pieces_walk_12 : decode prog_8_method_2_code 12 = .ok (.putfield 31, 3) := by decide +kernel
theorem d_Pieces_walk_15 : decode prog_8_method_2_code 15 = .ok (.aload_n 0, 1) := by decide +kernel
theorem d_Pieces_walk_16 : decode prog_8_method_2_code 16 = .ok (.iconst 0, 1) := by decide +kernel
theorem d_Pieces_walk_17 : decode prog_8_method_2_code 17 = .ok (.putfield 35, 3) := by decide +kernel
theorem d_Pieces_walk_20 : decode prog_8_method_2_code 20 = .ok (.aload_n 0, 1) := by decide +kernel
theorem d_Pieces_walk_21 : decode prog_8_method_2_code 21 = .ok (.iconst 0, 1) := by decide +kernel
theorem d_Pieces_walk_22 : decode prog_8_method_2_code 22 = .ok (.putfield 38, 3) := by decide +kernel
theorem d_Pieces_walk_25 : decode prog_8_method_2_code 25 = .ok (.aload_n 0, 1) := by decide +kernel
theorem d_Pieces_walk_26 : decode prog_8_method_2_code 26 = .ok (.getfield 19, 3) := by decide +kernel
theorem d_Pieces_walk_29 : decode prog_8_method_2_code 29 = .ok (.invokevirtual 41, 3) := by decide +kernel
theorem d_Pieces_walk_32 : decode prog_8_method_2_code 32 = .ok (.iconst 0, 1) := by decide +kernel
theorem d_Pieces_walk_33 : decode prog_8_method_2_code 33 = .ok (.istore_n 2, 1) := by decide +kernel
theorem d_Pieces_walk_34 : decode prog_8_method_2_code 34 = .ok (.iload_n 2, 1) := by decide +kernel
theorem d_Pieces_walk_35 : decode prog_8_method_2_code 35 = .ok (.getstatic 46, 3) := by decide +kernel
theorem d_Pieces_walk_38 : decode prog_8_method_2_code 38 = .ok (.arraylength, 1) := by decide +kernel
theorem d_Pieces_walk_39 : decode prog_8_method_2_code 39 = .ok (.if_icmp .ge 47, 3) := by decide +kernel
theorem d_Pieces_walk_42 : decode prog_8_method_2_code 42 = .ok (.iload_n 2, 1) := by decide +kernel
theorem d_Pieces_walk_43 : decode prog_8_method_2_code 43 = .ok (.aload_n 0, 1) := by decide +kernel
theorem d_Pieces_walk_44 : decode prog_8_method_2_code 44 = .ok (.getfield 9, 3) := by decide +kernel
theorem d_Pieces_walk_47 : decode prog_8_method_2_code 47 = .ok (.getfield 52, 3) := by decide +kernel
theorem d_Pieces_walk_50 : decode prog_8_method_2_code 50 = .ok (.if_icmp .ge 20, 3) := by decide +kernel
theorem d_Pieces_walk_53 : decode prog_8_method_2_code 53 = .ok (.aload_n 0, 1) := by decide +kernel
theorem d_Pieces_walk_54 : decode prog_8_method_2_code 54 = .ok (.getfield 9, 3) := by decide +kernel
theorem d_Pieces_walk_57 : decode prog_8_method_2_code 57 = .ok (.getfield 55, 3) := by decide +kernel
theorem d_Pieces_walk_60 : decode prog_8_method_2_code 60 = .ok (.iload_n 2, 1) := by decide +kernel
theorem d_Pieces_walk_61 : decode prog_8_method_2_code 61 = .ok (.iaload, 1) := by decide +kernel
theorem d_Pieces_walk_62 : decode prog_8_method_2_code 62 = .ok (.getstatic 46, 3) := by decide +kernel
theorem d_Pieces_walk_65 : decode prog_8_method_2_code 65 = .ok (.iload_n 2, 1) := by decide +kernel
theorem d_Pieces_walk_66 : decode prog_8_method_2_code 66 = .ok (.iaload, 1) := by decide +kernel
theorem d_Pieces_walk_67 : decode prog_8_method_2_code 67 = .ok (.if_icmp .eq 13, 3) := by decide +kernel
theorem d_Pieces_walk_70 : decode prog_8_method_2_code 70 = .ok (.aload_n 0, 1) := by decide +kernel
theorem d_Pieces_walk_71 : decode prog_8_method_2_code 71 = .ok (.getfield 15, 3) := by decide +kernel
theorem d_Pieces_walk_74 : decode prog_8_method_2_code 74 = .ok (.iconst 1, 1) := by decide +kernel
theorem d_Pieces_walk_75 : decode prog_8_method_2_code 75 = .ok (.iload_n 2, 1) := by decide +kernel
theorem d_Pieces_walk_76 : decode prog_8_method_2_code 76 = .ok (.invokevirtual 58, 3) := by decide +kernel
theorem d_Pieces_walk_79 : decode prog_8_method_2_code 79 = .ok (.ireturn, 1) := by decide +kernel
theorem d_Pieces_walk_80 : decode prog_8_method_2_code 80 = .ok (.iinc 2 1, 3) := by decide +kernel
theorem d_Pieces_walk_83 : decode prog_8_method_2_code 83 = .ok (.goto (-49), 3) := by decide +kernel
theorem d_Pieces_walk_86 : decode prog_8_method_2_code 86 = .ok (.getstatic 46, 3) := by decide +kernel
theorem d_Pieces_walk_89 : decode prog_8_method_2_code 89 = .ok (.arraylength, 1) := by decide +kernel
theorem d_Pieces_walk_90 : decode prog_8_method_2_code 90 = .ok (.istore_n 2, 1) := by decide +kernel
theorem d_Pieces_walk_91 : decode prog_8_method_2_code 91 = .ok (.iconst 0, 1) := by decide +kernel
theorem d_Pieces_walk_92 : decode prog_8_method_2_code 92 = .ok (.istore_n 3, 1) := by decide +kernel
theorem d_Pieces_walk_93 : decode prog_8_method_2_code 93 = .ok (.iload_n 3, 1) := by decide +kernel
theorem d_Pieces_walk_94 : decode prog_8_method_2_code 94 = .ok (.ldc 64, 2) := by decide +kernel
theorem d_Pieces_walk_96 : decode prog_8_method_2_code 96 = .ok (.if_icmp .ge 64, 3) := by decide +kernel
theorem d_Pieces_walk_99 : decode prog_8_method_2_code 99 = .ok (.aload_n 0, 1) := by decide +kernel
theorem d_Pieces_walk_100 : decode prog_8_method_2_code 100 = .ok (.getfield 27, 3) := by decide +kernel
theorem d_Pieces_walk_103 : decode prog_8_method_2_code 103 = .ok (.ldc 65, 2) := by decide +kernel
theorem d_Pieces_walk_105 : decode prog_8_method_2_code 105 = .ok (.if_icmp .eq 55, 3) := by decide +kernel
theorem d_Pieces_walk_108 : decode prog_8_method_2_code 108 = .ok (.aload_n 0, 1) := by decide +kernel
theorem d_Pieces_walk_109 : decode prog_8_method_2_code 109 = .ok (.iload_n 2, 1) := by decide +kernel
theorem d_Pieces_walk_110 : decode prog_8_method_2_code 110 = .ok (.invokevirtual 66, 3) := by decide +kernel
theorem d_Pieces_walk_113 : decode prog_8_method_2_code 113 = .ok (.ifCond .eq 11, 3) := by decide +kernel
theorem d_Pieces_walk_116 : decode prog_8_method_2_code 116 = .ok (.aload_n 0, 1) := by decide +kernel
theorem d_Pieces_walk_117 : decode prog_8_method_2_code 117 = .ok (.iload_n 2, 1) := by decide +kernel
theorem d_Pieces_walk_118 : decode prog_8_method_2_code 118 = .ok (.invokevirtual 70, 3) := by decide +kernel
theorem d_Pieces_walk_121 : decode prog_8_method_2_code 121 = .ok (.ifCond .ne 5, 3) := by decide +kernel
theorem d_Pieces_walk_124 : decode prog_8_method_2_code 124 = .ok (.iconst 0, 1) := by decide +kernel
theorem d_Pieces_walk_125 : decode prog_8_method_2_code 125 = .ok (.ireturn, 1) := by decide +kernel
theorem d_Pieces_walk_126 : decode prog_8_method_2_code 126 = .ok (.aload_n 0, 1) := by decide +kernel
theorem d_Pieces_walk_127 : decode prog_8_method_2_code 127 = .ok (.aload_n 0, 1) := by decide +kernel
theorem d_Pieces_walk_128 : decode prog_8_method_2_code 128 = .ok (.getfield 9, 3) := by decide +kernel
theorem d_Pieces_walk_131 : decode prog_8_method_2_code 131 = .ok (.iload_n 2, 1) := by decide +kernel
theorem d_Pieces_walk_132 : decode prog_8_method_2_code 132 = .ok (.iconst 4, 1) := by decide +kernel
theorem d_Pieces_walk_133 : decode prog_8_method_2_code 133 = .ok (.iadd, 1) := by decide +kernel
theorem d_Pieces_walk_134 : decode prog_8_method_2_code 134 = .ok (.invokevirtual 73, 3) := by decide +kernel
theorem d_Pieces_walk_137 : decode prog_8_method_2_code 137 = .ok (.putfield 27, 3) := by decide +kernel
theorem d_Pieces_walk_140 : decode prog_8_method_2_code 140 = .ok (.iload_n 2, 1) := by decide +kernel
theorem d_Pieces_walk_141 : decode prog_8_method_2_code 141 = .ok (.bipush 12, 2) := by decide +kernel
theorem d_Pieces_walk_143 : decode prog_8_method_2_code 143 = .ok (.aload_n 0, 1) := by decide +kernel
theorem d_Pieces_walk_144 : decode prog_8_method_2_code 144 = .ok (.getfield 9, 3) := by decide +kernel
theorem d_Pieces_walk_147 : decode prog_8_method_2_code 147 = .ok (.iload_n 2, 1) := by decide +kernel
theorem d_Pieces_walk_148 : decode prog_8_method_2_code 148 = .ok (.invokevirtual 73, 3) := by decide +kernel
theorem d_Pieces_walk_151 : decode prog_8_method_2_code 151 = .ok (.iadd, 1) := by decide +kernel
theorem d_Pieces_walk_152 : decode prog_8_method_2_code 152 = .ok (.iadd, 1) := by decide +kernel
theorem d_Pieces_walk_153 : decode prog_8_method_2_code 153 = .ok (.istore_n 2, 1) := by decide +kernel
theorem d_Pieces_walk_154 : decode prog_8_method_2_code 154 = .ok (.iinc 3 1, 3) := by decide +kernel
theorem d_Pieces_walk_157 : decode prog_8_method_2_code 157 = .ok (.goto (-64), 3) := by decide +kernel
theorem d_Pieces_walk_160 : decode prog_8_method_2_code 160 = .ok (.iload_n 2, 1) := by decide +kernel
theorem d_Pieces_walk_161 : decode prog_8_method_2_code 161 = .ok (.aload_n 0, 1) := by decide +kernel
theorem d_Pieces_walk_162 : decode prog_8_method_2_code 162 = .ok (.getfield 9, 3) := by decide +kernel
theorem d_Pieces_walk_165 : decode prog_8_method_2_code 165 = .ok (.getfield 52, 3) := by decide +kernel
theorem d_Pieces_walk_168 : decode prog_8_method_2_code 168 = .ok (.if_icmp .ge 16, 3) := by decide +kernel
theorem d_Pieces_walk_171 : decode prog_8_method_2_code 171 = .ok (.aload_n 0, 1) := by decide +kernel
theorem d_Pieces_walk_172 : decode prog_8_method_2_code 172 = .ok (.getfield 15, 3) := by decide +kernel
theorem d_Pieces_walk_175 : decode prog_8_method_2_code 175 = .ok (.bipush 11, 2) := by decide +kernel
theorem d_Pieces_walk_177 : decode prog_8_method_2_code 177 = .ok (.iload_n 2, 1) := by decide +kernel
theorem d_Pieces_walk_178 : decode prog_8_method_2_code 178 = .ok (.invokevirtual 58, 3) := by decide +kernel
theorem d_Pieces_walk_181 : decode prog_8_method_2_code 181 = .ok (.ifCond .eq 7, 3) := by decide +kernel
theorem d_Pieces_walk_184 : decode prog_8_method_2_code 184 = .ok (.iconst 1, 1) := by decide +kernel
theorem d_Pieces_walk_185 : decode prog_8_method_2_code 185 = .ok (.goto 4, 3) := by decide +kernel
theorem d_Pieces_walk_188 : decode prog_8_method_2_code 188 = .ok (.iconst 0, 1) := by decide +kernel
theorem d_Pieces_walk_189 : decode prog_8_method_2_code 189 = .ok (.ireturn, 1) := by decide +kernel
set_option maxRecDepth 100000 in
set_option maxHeartbeats 4000000 in
theorem c_Pieces_walk {l0 : Launch} (hl : l0.stackTraces = false) (n : Nat) (ids : List Nat) {t : Nat} (ht : mm_ok ids t 1 5) {r0 : Nat} (hr0 : mm_ok ids r0 1 10)  (σ : Mm) : kw_C l0 y_Pieces_walk (Cond.code y_Pieces_walk prog_8_method_2_code 4 (some .boolean) :: kw_Ts) rm_Pieces_walk kw_oi ids [] [.ref t, .ref r0] σ (F_Pieces_walk n t r0 σ) := by
  refine kw_start (L0 := [some (.ref t), some (.ref r0), none, none]) hl (by decide +kernel) (Nat.le_of_ble_eq_true rfl) rfl (fun Γ ad C Ce => ?_)
  unfold F_Pieces_walk
  refine kw_aload_n C d_Pieces_walk_0 rfl ?_
  refine kw_aload_n C d_Pieces_walk_1 rfl ?_
  refine kw_putO C fi_Pieces_23 rfl rfl ht hr0 d_Pieces_walk_2 (fun σ1 => ?_)
  refine kw_aload_n C d_Pieces_walk_5 rfl ?_
  refine kw_iconst (v := 0) C d_Pieces_walk_6 (by decide) ?_
  refine kw_putI C fi_Pieces_27 rfl ht d_Pieces_walk_7 (fun σ2 => ?_)
  refine kw_aload_n C d_Pieces_walk_10 rfl ?_
  refine kw_iconst (v := 0) C d_Pieces_walk_11 (by decide) ?_
  refine kw_putZ C fi_Pieces_31 rfl ht d_Pieces_walk_12 (fun σ3 => ?_)
  refine kw_aload_n C d_Pieces_walk_15 rfl ?_
  refine kw_iconst (v := 0) C d_Pieces_walk_16 (by decide) ?_
  refine kw_putZ C fi_Pieces_35 rfl ht d_Pieces_walk_17 (fun σ4 => ?_)
  refine kw_aload_n C d_Pieces_walk_20 rfl ?_
  refine kw_iconst (v := 0) C d_Pieces_walk_21 (by decide) ?_
  refine kw_putZ C fi_Pieces_38 rfl ht d_Pieces_walk_22 (fun σ5 => ?_)
  refine kw_aload_n C d_Pieces_walk_25 rfl ?_
  refine kw_getR C fi_Pieces_19 rfl rfl ht d_Pieces_walk_26 (fun o6 ho6 => ?_)
  refine kw_callVv (cl' := 0) (sl' := 0) (As := []) C (c_PackedBits_clear hl n ids ho6  σ5) mi_Pieces_41 v_PackedBits_clear ⟨_, _, rfl⟩ ho6 ⟨Nat.le_of_ble_eq_true rfl, Nat.le_of_ble_eq_true rfl⟩ (Nat.le_of_ble_eq_true rfl) ⟨Nat.le_of_ble_eq_true rfl, Nat.le_of_ble_eq_true rfl⟩ ⟨rfl, rfl⟩ rfl d_Pieces_walk_29 (fun σ7 => ?_)
  refine kw_iconst (v := 0) C d_Pieces_walk_32 (by decide) ?_
  refine kw_istore_n (L' := [some (.ref t), some (.ref r0), some (.int 0), none]) C d_Pieces_walk_33 (by decide) rfl ?_
  refine kw_wk (kw_l (α := Int32) (pc := 34) (Lj := fun x9 => [some (.ref t), none, some (.int x9), none]) (stj := fun x9 => []) (fun k8 hk8 x9 σ10 => ?_) n 0 σ7) ⟨Or.inr rfl, Or.inl rfl, Or.inr rfl, Or.inl rfl, trivial⟩
  refine kw_iload_n C d_Pieces_walk_34 rfl ?_
  refine kw_gets C (Cn := "PictureFile$Tape") (n := "MARK") (dd := "[I") (o := 100) (List.mem_of_getElem? (i := 0) rfl) rfl gs_Pieces_46 d_Pieces_walk_35 ?_
  refine kw_alen C (Or.inr rfl) d_Pieces_walk_38 ?_
  refine kw_icmp_ge (tgt := 86) C d_Pieces_walk_39 (by decide) ?_ ?_
  · refine kw_gets C (Cn := "PictureFile$Tape") (n := "MARK") (dd := "[I") (o := 100) (List.mem_of_getElem? (i := 0) rfl) rfl gs_Pieces_46 d_Pieces_walk_86 ?_
    refine kw_alen C (Or.inr rfl) d_Pieces_walk_89 ?_
    refine kw_leti (fun x11 => ?_)
    refine kw_istore_n (L' := [some (.ref t), none, some (.int x11), none]) C d_Pieces_walk_90 (by decide) rfl ?_
    refine kw_iconst (v := 0) C d_Pieces_walk_91 (by decide) ?_
    refine kw_istore_n (L' := [some (.ref t), none, some (.int x11), some (.int 0)]) C d_Pieces_walk_92 (by decide) rfl ?_
    refine kw_wk (kw_l (α := Int32 × Int32) (pc := 93) (Lj := fun x13 => [some (.ref t), none, some (.int x13.1), some (.int x13.2)]) (stj := fun x13 => []) (fun k12 hk12 x13 σ14 => ?_) n (x11, 0) σ10) ⟨Or.inr rfl, Or.inl rfl, Or.inr rfl, Or.inr rfl, trivial⟩
    refine kw_iload_n C d_Pieces_walk_93 rfl ?_
    refine kw_ldc (v := 65536) C d_Pieces_walk_94 k_Pieces_64 ?_
    refine kw_j (α := Unit) (pcj := 160) (Lj := fun x16 => [some (.ref t), none, some (.int x13.1), none]) (stj := fun x16 => []) (fun x16 σ17 => ?_) (fun k15 hk15 => ?_)
    · refine kw_iload_n C d_Pieces_walk_160 rfl ?_
      refine kw_aload_n C d_Pieces_walk_161 rfl ?_
      refine kw_getR C fi_Pieces_9 rfl rfl ht d_Pieces_walk_162 (fun o18 ho18 => ?_)
      refine kw_getI C fi_Pieces_52 (Or.inl rfl) ho18 d_Pieces_walk_165 ?_
      refine kw_j (α := Int32) (pcj := 189) (Lj := fun x20 => [none, none, none, none]) (stj := fun x20 => [.int x20]) (fun x20 σ21 => ?_) (fun k19 hk19 => ?_)
      · exact kw_zret C Ce rfl (by simp) (fun _ _ => rfl) (Nat.le_of_ble_eq_true rfl) (Nat.le_of_ble_eq_true rfl) rfl d_Pieces_walk_189
      · refine kw_j (α := Unit) (pcj := 184) (Lj := fun x23 => [none, none, none, none]) (stj := fun x23 => []) (fun x23 σ24 => ?_) (fun k22 hk22 => ?_)
        · refine kw_iconst (v := 1) C d_Pieces_walk_184 (by decide) ?_
          refine kw_goto (tgt := 189) C d_Pieces_walk_185 (by decide) ?_
          exact kw_wk (hk19 1 σ24) ⟨Or.inl rfl, Or.inl rfl, Or.inl rfl, Or.inl rfl, trivial⟩
        · refine kw_icmp_ge (tgt := 184) C d_Pieces_walk_168 (by decide) ?_ ?_
          · exact kw_wk (hk22 () σ17) ⟨Or.inl rfl, Or.inl rfl, Or.inl rfl, Or.inl rfl, trivial⟩
          · refine kw_aload_n C d_Pieces_walk_171 rfl ?_
            refine kw_getR C fi_Pieces_15 rfl rfl ht d_Pieces_walk_172 (fun o25 ho25 => ?_)
            refine kw_bipush (v := 11) C d_Pieces_walk_175 (by decide) ?_
            refine kw_iload_n C d_Pieces_walk_177 rfl ?_
            refine kw_callVi (cl' := 0) (sl' := 0) (As := [.int 11, .int x13.1]) C (c_Fault_refuse hl n ids ho25 11 x13.1 σ17) mi_Pieces_58 v_Fault_refuse ⟨_, _, rfl⟩ ho25 ⟨Nat.le_of_ble_eq_true rfl, Nat.le_of_ble_eq_true rfl⟩ (Nat.le_of_ble_eq_true rfl) ⟨Nat.le_of_ble_eq_true rfl, Nat.le_of_ble_eq_true rfl⟩ ⟨rfl, rfl⟩ rfl d_Pieces_walk_178 (fun x26 σ27 => ?_)
            refine kw_if_eq (tgt := 188) C d_Pieces_walk_181 (by decide) ?_ ?_
            · refine kw_iconst (v := 0) C d_Pieces_walk_188 (by decide) ?_
              exact kw_wk (hk19 0 σ27) ⟨Or.inl rfl, Or.inl rfl, Or.inl rfl, Or.inl rfl, trivial⟩
            · exact kw_wk (hk22 () σ27) ⟨Or.inl rfl, Or.inl rfl, Or.inl rfl, Or.inl rfl, trivial⟩
    · refine kw_icmp_ge (tgt := 160) C d_Pieces_walk_96 (by decide) ?_ ?_
      · exact kw_wk (hk15 () σ14) ⟨Or.inr rfl, Or.inl rfl, Or.inr rfl, Or.inl rfl, trivial⟩
      · refine kw_aload_n C d_Pieces_walk_99 rfl ?_
        refine kw_getI C fi_Pieces_27 (Or.inl rfl) ht d_Pieces_walk_100 ?_
        refine kw_ldc (v := 1229278788) C d_Pieces_walk_103 k_Pieces_65 ?_
        refine kw_icmp_eq (tgt := 160) C d_Pieces_walk_105 (by decide) ?_ ?_
        · exact kw_wk (hk15 () σ14) ⟨Or.inr rfl, Or.inl rfl, Or.inr rfl, Or.inl rfl, trivial⟩
        · refine kw_aload_n C d_Pieces_walk_108 rfl ?_
          refine kw_iload_n C d_Pieces_walk_109 rfl ?_
          refine kw_callVi (cl' := 0) (sl' := 0) (As := [.int x13.1]) C (c_Pieces_isWhole hl n ids ht x13.1 σ14) mi_Pieces_66 v_Pieces_isWhole ⟨_, _, rfl⟩ ht ⟨Nat.le_of_ble_eq_true rfl, Nat.le_of_ble_eq_true rfl⟩ (Nat.le_of_ble_eq_true rfl) ⟨Nat.le_of_ble_eq_true rfl, Nat.le_of_ble_eq_true rfl⟩ ⟨rfl, rfl⟩ rfl d_Pieces_walk_110 (fun x28 σ29 => ?_)
          refine kw_j (α := Unit) (pcj := 124) (Lj := fun x31 => [none, none, none, none]) (stj := fun x31 => []) (fun x31 σ32 => ?_) (fun k30 hk30 => ?_)
          · refine kw_iconst (v := 0) C d_Pieces_walk_124 (by decide) ?_
            exact kw_zret C Ce rfl (by simp) (fun _ _ => rfl) (Nat.le_of_ble_eq_true rfl) (Nat.le_of_ble_eq_true rfl) rfl d_Pieces_walk_125
          · refine kw_if_eq (tgt := 124) C d_Pieces_walk_113 (by decide) ?_ ?_
            · exact kw_wk (hk30 () σ29) ⟨Or.inl rfl, Or.inl rfl, Or.inl rfl, Or.inl rfl, trivial⟩
            · refine kw_aload_n C d_Pieces_walk_116 rfl ?_
              refine kw_iload_n C d_Pieces_walk_117 rfl ?_
              refine kw_callVi (cl' := 0) (sl' := 0) (As := [.int x13.1]) C (c_Pieces_isFit hl n ids ht x13.1 σ29) mi_Pieces_70 v_Pieces_isFit ⟨_, _, rfl⟩ ht ⟨Nat.le_of_ble_eq_true rfl, Nat.le_of_ble_eq_true rfl⟩ (Nat.le_of_ble_eq_true rfl) ⟨Nat.le_of_ble_eq_true rfl, Nat.le_of_ble_eq_true rfl⟩ ⟨rfl, rfl⟩ rfl d_Pieces_walk_118 (fun x33 σ34 => ?_)
              refine kw_if_ne (tgt := 126) C d_Pieces_walk_121 (by decide) ?_ ?_
              · refine kw_aload_n C d_Pieces_walk_126 rfl ?_
                refine kw_aload_n C d_Pieces_walk_127 rfl ?_
                refine kw_getR C fi_Pieces_9 rfl rfl ht d_Pieces_walk_128 (fun o35 ho35 => ?_)
                refine kw_iload_n C d_Pieces_walk_131 rfl ?_
                refine kw_iconst (v := 4) C d_Pieces_walk_132 (by decide) ?_
                refine kw_iadd C d_Pieces_walk_133 ?_
                refine kw_callVi (cl' := 0) (sl' := 0) (As := [.int (x13.1 + 4)]) C (c_Tape_number hl n ids ho35 (x13.1 + 4) σ34) mi_Pieces_73 v_Tape_number ⟨_, _, rfl⟩ ho35 ⟨Nat.le_of_ble_eq_true rfl, Nat.le_of_ble_eq_true rfl⟩ (Nat.le_of_ble_eq_true rfl) ⟨Nat.le_of_ble_eq_true rfl, Nat.le_of_ble_eq_true rfl⟩ ⟨rfl, rfl⟩ rfl d_Pieces_walk_134 (fun x36 σ37 => ?_)
                refine kw_putI C fi_Pieces_27 rfl ht d_Pieces_walk_137 (fun σ38 => ?_)
                refine kw_iload_n C d_Pieces_walk_140 rfl ?_
                refine kw_bipush (v := 12) C d_Pieces_walk_141 (by decide) ?_
                refine kw_aload_n C d_Pieces_walk_143 rfl ?_
                refine kw_getR C fi_Pieces_9 rfl rfl ht d_Pieces_walk_144 (fun o39 ho39 => ?_)
                refine kw_iload_n C d_Pieces_walk_147 rfl ?_
                refine kw_callVi (cl' := 0) (sl' := 0) (As := [.int x13.1]) C (c_Tape_number hl n ids ho39 x13.1 σ38) mi_Pieces_73 v_Tape_number ⟨_, _, rfl⟩ ho39 ⟨Nat.le_of_ble_eq_true rfl, Nat.le_of_ble_eq_true rfl⟩ (Nat.le_of_ble_eq_true rfl) ⟨Nat.le_of_ble_eq_true rfl, Nat.le_of_ble_eq_true rfl⟩ ⟨rfl, rfl⟩ rfl d_Pieces_walk_148 (fun x40 σ41 => ?_)
                refine kw_iadd C d_Pieces_walk_151 ?_
                refine kw_iadd C d_Pieces_walk_152 ?_
                refine kw_leti (fun x42 => ?_)
                refine kw_istore_n (L' := [some (.ref t), none, some (.int x42), some (.int x13.2)]) C d_Pieces_walk_153 (by decide) rfl ?_
                refine kw_iincL (L2 := fun x43 => [some (.ref t), none, some (.int x42), some (.int x43)]) C d_Pieces_walk_154 (by decide) rfl (fun _ => rfl) (fun x43 => ?_)
                refine kw_goto (tgt := 93) C d_Pieces_walk_157 (by decide) ?_
                exact kw_wk (hk12 (x42, x43) σ41) ⟨Or.inr rfl, Or.inl rfl, Or.inr rfl, Or.inr rfl, trivial⟩
              · exact kw_wk (hk30 () σ34) ⟨Or.inl rfl, Or.inl rfl, Or.inl rfl, Or.inl rfl, trivial⟩
  · refine kw_iload_n C d_Pieces_walk_42 rfl ?_
    refine kw_aload_n C d_Pieces_walk_43 rfl ?_
    refine kw_getR C fi_Pieces_9 rfl rfl ht d_Pieces_walk_44 (fun o44 ho44 => ?_)
    refine kw_getI C fi_Pieces_52 (Or.inl rfl) ho44 d_Pieces_walk_47 ?_
    refine kw_j (α := Unit) (pcj := 70) (Lj := fun x46 => [some (.ref t), none, some (.int x9), none]) (stj := fun x46 => []) (fun x46 σ47 => ?_) (fun k45 hk45 => ?_)
    · refine kw_aload_n C d_Pieces_walk_70 rfl ?_
      refine kw_getR C fi_Pieces_15 rfl rfl ht d_Pieces_walk_71 (fun o48 ho48 => ?_)
      refine kw_iconst (v := 1) C d_Pieces_walk_74 (by decide) ?_
      refine kw_iload_n C d_Pieces_walk_75 rfl ?_
      refine kw_callVi (cl' := 0) (sl' := 0) (As := [.int 1, .int x9]) C (c_Fault_refuse hl n ids ho48 1 x9 σ47) mi_Pieces_58 v_Fault_refuse ⟨_, _, rfl⟩ ho48 ⟨Nat.le_of_ble_eq_true rfl, Nat.le_of_ble_eq_true rfl⟩ (Nat.le_of_ble_eq_true rfl) ⟨Nat.le_of_ble_eq_true rfl, Nat.le_of_ble_eq_true rfl⟩ ⟨rfl, rfl⟩ rfl d_Pieces_walk_76 (fun x49 σ50 => ?_)
      exact kw_zret C Ce rfl (by simp) (fun _ _ => rfl) (Nat.le_of_ble_eq_true rfl) (Nat.le_of_ble_eq_true rfl) rfl d_Pieces_walk_79
    · refine kw_icmp_ge (tgt := 70) C d_Pieces_walk_50 (by decide) ?_ ?_
      · exact kw_wk (hk45 () σ10) ⟨Or.inr rfl, Or.inl rfl, Or.inr rfl, Or.inl rfl, trivial⟩
      · refine kw_aload_n C d_Pieces_walk_53 rfl ?_
        refine kw_getR C fi_Pieces_9 rfl rfl ht d_Pieces_walk_54 (fun o51 ho51 => ?_)
        refine kw_getR C fi_Pieces_55 rfl rfl ho51 d_Pieces_walk_57 (fun o52 ho52 => ?_)
        refine kw_iload_n C d_Pieces_walk_60 rfl ?_
        refine kw_iald C (Or.inl ⟨ho52.1, ho52.2.1⟩) d_Pieces_walk_61 ?_
        refine kw_gets C (Cn := "PictureFile$Tape") (n := "MARK") (dd := "[I") (o := 100) (List.mem_of_getElem? (i := 0) rfl) rfl gs_Pieces_46 d_Pieces_walk_62 ?_
        refine kw_iload_n C d_Pieces_walk_65 rfl ?_
        refine kw_iald C (Or.inr rfl) d_Pieces_walk_66 ?_
        refine kw_icmp_eq (tgt := 80) C d_Pieces_walk_67 (by decide) ?_ ?_
        · refine kw_iincL (L2 := fun x53 => [some (.ref t), none, some (.int x53), none]) C d_Pieces_walk_80 (by decide) rfl (fun _ => rfl) (fun x53 => ?_)
          refine kw_goto (tgt := 34) C d_Pieces_walk_83 (by decide) ?_
          exact kw_wk (hk8 x53 σ10) ⟨Or.inr rfl, Or.inl rfl, Or.inr rfl, Or.inl rfl, trivial⟩
        · exact kw_wk (hk45 () σ10) ⟨Or.inr rfl, Or.inl rfl, Or.inr rfl, Or.inl rfl, trivial⟩
/-! PackedBits_number -/
def rm_PackedBits_number : Room := { frames := 0, cells := 0, slots := 0, locals := 0 }
def F_PackedBits_number (n : Nat) (t : Nat) (a0 : Int32) (σ : Mm) : Option (Int32 × Mm) :=
if ((gS σ (64 * t + 5)) + a0) ≤ ((8 : Int32) * (gS σ (64 * t + 3))) then (
kf_l (α := Int32 × Int32) n (fun k1 x2 σ3 =>
if a0 ≤ x2.2 then (
some (x2.1, σ3)) else (
Option.bind (gR σ3 (64 * t + 0)) fun o4 =>
Option.bind (gR σ3 (64 * o4 + 0)) fun o5 =>
Option.bind (gR σ3 (64 * t + 2)) fun o6 =>
kf_nz 8 <|
kf_let ((gS σ3 (64 * t + 5)) / 8 : Int32) fun x7 =>
kf_in x7 (mm_kd o6).2.2 <|
kf_let (gB σ3 o6 x7.toNatClampNeg : Int32) fun x8 =>
kf_in x8 (mm_kd o5).2.2 <|
kf_nz 8 <|
kf_let (x2.1 ||| ((((gB σ3 o5 x8.toNatClampNeg) >>> (((gS σ3 (64 * t + 5)) - (gS σ3 (64 * t + 5)) / 8 * 8) &&& 31)) &&& 1) <<< (x2.2 &&& 31)) : Int32) fun x9 =>
kf_let (pS σ3 (64 * t + 5) ((gS σ3 (64 * t + 5)) + 1)) fun σ10 =>
kf_let (x2.2 + Int32.ofInt 1) fun x11 =>
k1 (x9, x11) σ10)) (0, 0) σ) else (
Option.bind (gR σ (64 * t + 1)) fun o12 =>
kf_let (pS σ (64 * o12 + 0) 20) fun σ13 =>
Option.bind (gR σ13 (64 * t + 1)) fun o14 =>
kf_let (pS σ13 (64 * o14 + 1) (gS σ13 (64 * t + 4))) fun σ15 =>
some (-1, σ15))
theorem d_PackedBits_number_0 : decode prog_5_method_6_code 0 = .ok (.aload_n 0, 1) := by decide +kernel
theorem d_PackedBits_number_1 : decode prog_5_method_6_code 1 = .ok (.getfield 33, 3) := by decide +kernel
theorem d_PackedBits_number_4 : decode prog_5_method_6_code 4 = .ok (.iload_n 1, 1) := by decide +kernel
theorem d_PackedBits_number_5 : decode prog_5_method_6_code 5 = .ok (.iadd, 1) := by decide +kernel
theorem d_PackedBits_number_6 : decode prog_5_method_6_code 6 = .ok (.bipush 8, 2) := by decide +kernel
theorem d_PackedBits_number_8 : decode prog_5_method_6_code 8 = .ok (.aload_n 0, 1) := by decide +kernel
theorem d_PackedBits_number_9 : decode prog_5_method_6_code 9 = .ok (.getfield 26, 3) := by decide +kernel
theorem d_PackedBits_number_12 : decode prog_5_method_6_code 12 = .ok (.imul, 1) := by decide +kernel
theorem d_PackedBits_number_13 : decode prog_5_method_6_code 13 = .ok (.if_icmp .le 25, 3) := by decide +kernel
theorem d_PackedBits_number_16 : decode prog_5_method_6_code 16 = .ok (.aload_n 0, 1) := by decide +kernel
theorem d_PackedBits_number_17 : decode prog_5_method_6_code 17 = .ok (.getfield 22, 3) := by decide +kernel
theorem d_PackedBits_number_20 : decode prog_5_method_6_code 20 = .ok (.bipush 20, 2) := by decide +kernel
theorem d_PackedBits_number_22 : decode prog_5_method_6_code 22 = .ok (.putfield 36, 3) := by decide +kernel
theorem d_PackedBits_number_25 : decode prog_5_method_6_code 25 = .ok (.aload_n 0, 1) := by decide +kernel
theorem d_PackedBits_number_26 : decode prog_5_method_6_code 26 = .ok (.getfield 22, 3) := by decide +kernel
theorem d_PackedBits_number_29 : decode prog_5_method_6_code 29 = .ok (.aload_n 0, 1) := by decide +kernel
theorem d_PackedBits_number_30 : decode prog_5_method_6_code 30 = .ok (.getfield 30, 3) := by decide +kernel
theorem d_PackedBits_number_33 : decode prog_5_method_6_code 33 = .ok (.putfield 41, 3) := by decide +kernel
theorem d_PackedBits_number_36 : decode prog_5_method_6_code 36 = .ok (.iconst (-1), 1) := by decide +kernel
theorem d_PackedBits_number_37 : decode prog_5_method_6_code 37 = .ok (.ireturn, 1) := by decide +kernel
theorem d_PackedBits_number_38 : decode prog_5_method_6_code 38 = .ok (.iconst 0, 1) := by decide +kernel
theorem d_PackedBits_number_39 : decode prog_5_method_6_code 39 = .ok (.istore_n 2, 1) := by decide +kernel
theorem d_PackedBits_number_40 : decode prog_5_method_6_code 40 = .ok (.iconst 0, 1) := by decide +kernel
theorem d_PackedBits_number_41 : decode prog_5_method_6_code 41 = .ok (.istore_n 3, 1) := by decide +kernel
theorem d_PackedBits_number_42 : decode prog_5_method_6_code 42 = .ok (.iload_n 3, 1) := by decide +kernel
theorem d_PackedBits_number_43 : decode prog_5_method_6_code 43 = .ok (.iload_n 1, 1) := by decide +kernel
theorem d_PackedBits_number_44 : decode prog_5_method_6_code 44 = .ok (.if_icmp .ge 54, 3) := by decide +kernel
theorem d_PackedBits_number_47 : decode prog_5_method_6_code 47 = .ok (.iload_n 2, 1) := by decide +kernel
theorem d_PackedBits_number_48 : decode prog_5_method_6_code 48 = .ok (.aload_n 0, 1) := by decide +kernel
theorem d_PackedBits_number_49 : decode prog_5_method_6_code 49 = .ok (.getfield 18, 3) := by decide +kernel
theorem d_PackedBits_number_52 : decode prog_5_method_6_code 52 = .ok (.getfield 44, 3) := by decide +kernel
theorem d_PackedBits_number_55 : decode prog_5_method_6_code 55 = .ok (.aload_n 0, 1) := by decide +kernel
theorem d_PackedBits_number_56 : decode prog_5_method_6_code 56 = .ok (.getfield 12, 3) := by decide +kernel
theorem d_PackedBits_number_59 : decode prog_5_method_6_code 59 = .ok (.aload_n 0, 1) := by decide +kernel
theorem d_PackedBits_number_60 : decode prog_5_method_6_code 60 = .ok (.getfield 33, 3) := by decide +kernel
theorem d_PackedBits_number_63 : decode prog_5_method_6_code 63 = .ok (.bipush 8, 2) := by decide +kernel
theorem d_PackedBits_number_65 : decode prog_5_method_6_code 65 = .ok (.idiv, 1) := by decide +kernel
theorem d_PackedBits_number_66 : decode prog_5_method_6_code 66 = .ok (.iaload, 1) := by decide +kernel
theorem d_PackedBits_number_67 : decode prog_5_method_6_code 67 = .ok (.iaload, 1) := by decide +kernel
theorem d_PackedBits_number_68 : decode prog_5_method_6_code 68 = .ok (.aload_n 0, 1) := by decide +kernel
theorem d_PackedBits_number_69 : decode prog_5_method_6_code 69 = .ok (.getfield 33, 3) := by decide +kernel
theorem d_PackedBits_number_72 : decode prog_5_method_6_code 72 = .ok (.bipush 8, 2) := by decide +kernel
theorem d_PackedBits_number_74 : decode prog_5_method_6_code 74 = .ok (.irem, 1) := by decide +kernel
theorem d_PackedBits_number_75 : decode prog_5_method_6_code 75 = .ok (.ishr, 1) := by decide +kernel
theorem d_PackedBits_number_76 : decode prog_5_method_6_code 76 = .ok (.iconst 1, 1) := by decide +kernel
theorem d_PackedBits_number_77 : decode prog_5_method_6_code 77 = .ok (.iand, 1) := by decide +kernel
theorem d_PackedBits_number_78 : decode prog_5_method_6_code 78 = .ok (.iload_n 3, 1) := by decide +kernel
theorem d_PackedBits_number_79 : decode prog_5_method_6_code 79 = .ok (.ishl, 1) := by decide +kernel
theorem d_PackedBits_number_80 : decode prog_5_method_6_code 80 = .ok (.ior, 1) := by decide +kernel
theorem d_PackedBits_number_81 : decode prog_5_method_6_code 81 = .ok (.istore_n 2, 1) := by decide +kernel
theorem d_PackedBits_number_82 : decode prog_5_method_6_code 82 = .ok (.aload_n 0, 1) := by decide +kernel
theorem d_PackedBits_number_83 : decode prog_5_method_6_code 83 = .ok (.dup, 1) := by decide +kernel
theorem d_PackedBits_number_84 : decode prog_5_method_6_code 84 = .ok (.getfield 33, 3) := by decide +kernel
theorem d_PackedBits_number_87 : decode prog_5_method_6_code 87 = .ok (.iconst 1, 1) := by decide +kernel
theorem d_PackedBits_number_88 : decode prog_5_method_6_code 88 = .ok (.iadd, 1) := by decide +kernel
theorem d_PackedBits_number_89 : decode prog_5_method_6_code 89 = .ok (.putfield 33, 3) := by decide +kernel
theorem d_PackedBits_number_92 : decode prog_5_method_6_code 92 = .ok (.iinc 3 1, 3) := by decide +kernel
theorem d_PackedBits_number_95 : decode prog_5_method_6_code 95 = .ok (.goto (-53), 3) := by decide +kernel
theorem d_PackedBits_number_98 : decode prog_5_method_6_code 98 = .ok (.iload_n 2, 1) := by decide +kernel
theorem d_PackedBits_number_99 : decode prog_5_method_6_code 99 = .ok (.ireturn, 1) := by decide +kernel
set_option maxRecDepth 100000 in
set_option maxHeartbeats 4000000 in
theorem c_PackedBits_number {l0 : Launch} (hl : l0.stackTraces = false) (n : Nat) (ids : List Nat) {t : Nat} (ht : mm_ok ids t 1 4) (a0 : Int32) (σ : Mm) : kw_C l0 y_PackedBits_number (Cond.code y_PackedBits_number prog_5_method_6_code 4 (some .int) :: kw_Ts) rm_PackedBits_number kw_oi ids [] [.ref t, .int a0] σ (F_PackedBits_number n t a0 σ) := by
  refine kw_start (L0 := [some (.ref t), some (.int a0), none, none]) hl (by decide +kernel) (Nat.le_of_ble_eq_true rfl) rfl (fun Γ ad C Ce => ?_)
  unfold F_PackedBits_number
  refine kw_aload_n C d_PackedBits_number_0 rfl ?_
  refine kw_getI C fi_PackedBits_33 (Or.inl rfl) ht d_PackedBits_number_1 ?_
  refine kw_iload_n C d_PackedBits_number_4 rfl ?_
  refine kw_iadd C d_PackedBits_number_5 ?_
  refine kw_bipush (v := 8) C d_PackedBits_number_6 (by decide) ?_
  refine kw_aload_n C d_PackedBits_number_8 rfl ?_
  refine kw_getI C fi_PackedBits_26 (Or.inl rfl) ht d_PackedBits_number_9 ?_
  refine kw_imul C d_PackedBits_number_12 ?_
  refine kw_icmp_le (tgt := 38) C d_PackedBits_number_13 (by decide) ?_ ?_
  · refine kw_iconst (v := 0) C d_PackedBits_number_38 (by decide) ?_
    refine kw_istore_n (L' := [some (.ref t), some (.int a0), some (.int 0), none]) C d_PackedBits_number_39 (by decide) rfl ?_
    refine kw_iconst (v := 0) C d_PackedBits_number_40 (by decide) ?_
    refine kw_istore_n (L' := [some (.ref t), some (.int a0), some (.int 0), some (.int 0)]) C d_PackedBits_number_41 (by decide) rfl ?_
    refine kw_wk (kw_l (α := Int32 × Int32) (pc := 42) (Lj := fun x2 => [some (.ref t), some (.int a0), some (.int x2.1), some (.int x2.2)]) (stj := fun x2 => []) (fun k1 hk1 x2 σ3 => ?_) n (0, 0) σ) ⟨Or.inr rfl, Or.inr rfl, Or.inr rfl, Or.inr rfl, trivial⟩
    refine kw_iload_n C d_PackedBits_number_42 rfl ?_
    refine kw_iload_n C d_PackedBits_number_43 rfl ?_
    refine kw_icmp_ge (tgt := 98) C d_PackedBits_number_44 (by decide) ?_ ?_
    · refine kw_iload_n C d_PackedBits_number_98 rfl ?_
      exact kw_iret C Ce rfl (by simp) (fun _ _ => rfl) (Nat.le_of_ble_eq_true rfl) (Nat.le_of_ble_eq_true rfl) rfl d_PackedBits_number_99
    · refine kw_iload_n C d_PackedBits_number_47 rfl ?_
      refine kw_aload_n C d_PackedBits_number_48 rfl ?_
      refine kw_getR C fi_PackedBits_18 rfl rfl ht d_PackedBits_number_49 (fun o4 ho4 => ?_)
      refine kw_getR C fi_PackedBits_44 rfl rfl ho4 d_PackedBits_number_52 (fun o5 ho5 => ?_)
      refine kw_aload_n C d_PackedBits_number_55 rfl ?_
      refine kw_getR C fi_PackedBits_12 rfl rfl ht d_PackedBits_number_56 (fun o6 ho6 => ?_)
      refine kw_aload_n C d_PackedBits_number_59 rfl ?_
      refine kw_getI C fi_PackedBits_33 (Or.inl rfl) ht d_PackedBits_number_60 ?_
      refine kw_bipush (v := 8) C d_PackedBits_number_63 (by decide) ?_
      refine kw_idiv C d_PackedBits_number_65 ?_
      refine kw_leti (fun x7 => ?_)
      refine kw_iald C (Or.inl ⟨ho6.1, ho6.2.1⟩) d_PackedBits_number_66 ?_
      refine kw_leti (fun x8 => ?_)
      refine kw_iald C (Or.inl ⟨ho5.1, ho5.2.1⟩) d_PackedBits_number_67 ?_
      refine kw_aload_n C d_PackedBits_number_68 rfl ?_
      refine kw_getI C fi_PackedBits_33 (Or.inl rfl) ht d_PackedBits_number_69 ?_
      refine kw_bipush (v := 8) C d_PackedBits_number_72 (by decide) ?_
      refine kw_irem C d_PackedBits_number_74 ?_
      refine kw_ishr C d_PackedBits_number_75 ?_
      refine kw_iconst (v := 1) C d_PackedBits_number_76 (by decide) ?_
      refine kw_iand C d_PackedBits_number_77 ?_
      refine kw_iload_n C d_PackedBits_number_78 rfl ?_
      refine kw_ishl C d_PackedBits_number_79 ?_
      refine kw_ior C d_PackedBits_number_80 ?_
      refine kw_leti (fun x9 => ?_)
      refine kw_istore_n (L' := [some (.ref t), some (.int a0), some (.int x9), some (.int x2.2)]) C d_PackedBits_number_81 (by decide) rfl ?_
      refine kw_aload_n C d_PackedBits_number_82 rfl ?_
      refine kw_dup C d_PackedBits_number_83 rfl ?_
      refine kw_getI C fi_PackedBits_33 (Or.inl rfl) ht d_PackedBits_number_84 ?_
      refine kw_iconst (v := 1) C d_PackedBits_number_87 (by decide) ?_
      refine kw_iadd C d_PackedBits_number_88 ?_
      refine kw_putI C fi_PackedBits_33 rfl ht d_PackedBits_number_89 (fun σ10 => ?_)
      refine kw_iincL (L2 := fun x11 => [some (.ref t), some (.int a0), some (.int x9), some (.int x11)]) C d_PackedBits_number_92 (by decide) rfl (fun _ => rfl) (fun x11 => ?_)
      refine kw_goto (tgt := 42) C d_PackedBits_number_95 (by decide) ?_
      exact kw_wk (hk1 (x9, x11) σ10) ⟨Or.inr rfl, Or.inr rfl, Or.inr rfl, Or.inr rfl, trivial⟩
  · refine kw_aload_n C d_PackedBits_number_16 rfl ?_
    refine kw_getR C fi_PackedBits_22 rfl rfl ht d_PackedBits_number_17 (fun o12 ho12 => ?_)
    refine kw_bipush (v := 20) C d_PackedBits_number_20 (by decide) ?_
    refine kw_putI C fi_PackedBits_36 rfl ho12 d_PackedBits_number_22 (fun σ13 => ?_)
    refine kw_aload_n C d_PackedBits_number_25 rfl ?_
    refine kw_getR C fi_PackedBits_22 rfl rfl ht d_PackedBits_number_26 (fun o14 ho14 => ?_)
    refine kw_aload_n C d_PackedBits_number_29 rfl ?_
    refine kw_getI C fi_PackedBits_30 (Or.inl rfl) ht d_PackedBits_number_30 ?_
    refine kw_putI C fi_PackedBits_41 rfl ho14 d_PackedBits_number_33 (fun σ15 => ?_)
    refine kw_iconst (v := -1) C d_PackedBits_number_36 (by decide) ?_
    exact kw_iret C Ce rfl (by simp) (fun _ _ => rfl) (Nat.le_of_ble_eq_true rfl) (Nat.le_of_ble_eq_true rfl) rfl d_PackedBits_number_37
/-! PackedBits_placeOf -/
def rm_PackedBits_placeOf : Room := { frames := 0, cells := 0, slots := 0, locals := 0 }
def F_PackedBits_placeOf (n : Nat) (t : Nat) (a0 : Int32) (σ : Mm) : Option (Int32 × Mm) :=
kf_j (α := Int32) (fun x2 σ3 =>
some (x2, σ3)) fun k1 =>
if ((8 : Int32) * (gS σ (64 * t + 3))) ≤ a0 then (
k1 (gS σ (64 * t + 4)) σ) else (
Option.bind (gR σ (64 * t + 2)) fun o4 =>
kf_nz 8 <|
kf_let (a0 / 8 : Int32) fun x5 =>
kf_in x5 (mm_kd o4).2.2 <|
k1 (gB σ o4 x5.toNatClampNeg) σ)
theorem d_PackedBits_placeOf_0 : decode prog_5_method_5_code 0 = .ok (.iload_n 1, 1) := by decide +kernel
theorem d_PackedBits_placeOf_1 : decode prog_5_method_5_code 1 = .ok (.bipush 8, 2) := by decide +kernel
theorem d_PackedBits_placeOf_3 : decode prog_5_method_5_code 3 = .ok (.aload_n 0, 1) := by decide +kernel
theorem d_PackedBits_placeOf_4 : decode prog_5_method_5_code 4 = .ok (.getfield 26, 3) := by decide +kernel
theorem d_PackedBits_placeOf_7 : decode prog_5_method_5_code 7 = .ok (.imul, 1) := by decide +kernel
theorem d_PackedBits_placeOf_8 : decode prog_5_method_5_code 8 = .ok (.if_icmp .ge 15, 3) := by decide +kernel
theorem d_PackedBits_placeOf_11 : decode prog_5_method_5_code 11 = .ok (.aload_n 0, 1) := by decide +kernel
theorem d_PackedBits_placeOf_12 : decode prog_5_method_5_code 12 = .ok (.getfield 12, 3) := by decide +kernel
theorem d_PackedBits_placeOf_15 : decode prog_5_method_5_code 15 = .ok (.iload_n 1, 1) := by decide +kernel
theorem d_PackedBits_placeOf_16 : decode prog_5_method_5_code 16 = .ok (.bipush 8, 2) := by decide +kernel
theorem d_PackedBits_placeOf_18 : decode prog_5_method_5_code 18 = .ok (.idiv, 1) := by decide +kernel
theorem d_PackedBits_placeOf_19 : decode prog_5_method_5_code 19 = .ok (.iaload, 1) := by decide +kernel
theorem d_PackedBits_placeOf_20 : decode prog_5_method_5_code 20 = .ok (.goto 7, 3) := by decide +kernel
theorem d_PackedBits_placeOf_23 : decode prog_5_method_5_code 23 = .ok (.aload_n 0, 1) := by decide +kernel
theorem d_PackedBits_placeOf_24 : decode prog_5_method_5_code 24 = .ok (.getfield 30, 3) := by decide +kernel
theorem d_PackedBits_placeOf_27 : decode prog_5_method_5_code 27 = .ok (.ireturn, 1) := by decide +kernel
set_option maxRecDepth 100000 in
set_option maxHeartbeats 4000000 in
theorem c_PackedBits_placeOf {l0 : Launch} (hl : l0.stackTraces = false) (n : Nat) (ids : List Nat) {t : Nat} (ht : mm_ok ids t 1 4) (a0 : Int32) (σ : Mm) : kw_C l0 y_PackedBits_placeOf (Cond.code y_PackedBits_placeOf prog_5_method_5_code 2 (some .int) :: kw_Ts) rm_PackedBits_placeOf kw_oi ids [] [.ref t, .int a0] σ (F_PackedBits_placeOf n t a0 σ) := by
  refine kw_start (L0 := [some (.ref t), some (.int a0)]) hl (by decide +kernel) (Nat.le_of_ble_eq_true rfl) rfl (fun Γ ad C Ce => ?_)
  unfold F_PackedBits_placeOf
  refine kw_iload_n C d_PackedBits_placeOf_0 rfl ?_
  refine kw_bipush (v := 8) C d_PackedBits_placeOf_1 (by decide) ?_
  refine kw_aload_n C d_PackedBits_placeOf_3 rfl ?_
  refine kw_getI C fi_PackedBits_26 (Or.inl rfl) ht d_PackedBits_placeOf_4 ?_
  refine kw_imul C d_PackedBits_placeOf_7 ?_
  refine kw_j (α := Int32) (pcj := 27) (Lj := fun x2 => [none, none]) (stj := fun x2 => [.int x2]) (fun x2 σ3 => ?_) (fun k1 hk1 => ?_)
  · exact kw_iret C Ce rfl (by simp) (fun _ _ => rfl) (Nat.le_of_ble_eq_true rfl) (Nat.le_of_ble_eq_true rfl) rfl d_PackedBits_placeOf_27
  · refine kw_icmp_ge (tgt := 23) C d_PackedBits_placeOf_8 (by decide) ?_ ?_
    · refine kw_aload_n C d_PackedBits_placeOf_23 rfl ?_
      refine kw_getI C fi_PackedBits_30 (Or.inl rfl) ht d_PackedBits_placeOf_24 ?_
      exact kw_wk (hk1 (gS σ (64 * t + 4)) σ) ⟨Or.inl rfl, Or.inl rfl, trivial⟩
    · refine kw_aload_n C d_PackedBits_placeOf_11 rfl ?_
      refine kw_getR C fi_PackedBits_12 rfl rfl ht d_PackedBits_placeOf_12 (fun o4 ho4 => ?_)
      refine kw_iload_n C d_PackedBits_placeOf_15 rfl ?_
      refine kw_bipush (v := 8) C d_PackedBits_placeOf_16 (by decide) ?_
      refine kw_idiv C d_PackedBits_placeOf_18 ?_
      refine kw_leti (fun x5 => ?_)
      refine kw_iald C (Or.inl ⟨ho4.1, ho4.2.1⟩) d_PackedBits_placeOf_19 ?_
      refine kw_goto (tgt := 27) C d_PackedBits_placeOf_20 (by decide) ?_
      exact kw_wk (hk1 (gB σ o4 x5.toNatClampNeg) σ) ⟨Or.inl rfl, Or.inl rfl, trivial⟩
/-! Unpacker_takeHead -/
def rm_Unpacker_takeHead : Room := { frames := 1, cells := 0, slots := 0, locals := 23 }
def F_Unpacker_takeHead (n : Nat) (t : Nat) (σ : Mm) : Option (Int32 × Mm) :=
Option.bind (gR σ (64 * t + 0)) fun o1 =>
kf_c2 (F_PackedBits_number n o1 8 σ) fun x2 σ3 =>
if x2 = (-1) then (
kf_z 0 (some (0, σ3))) else (
kf_j (α := Unit) (fun x5 σ6 =>
Option.bind (gR σ6 (64 * t + 1)) fun o7 =>
Option.bind (gR σ6 (64 * t + 0)) fun o8 =>
kf_c2 (F_PackedBits_placeOf n o8 0 σ6) fun x9 σ10 =>
kf_c2 (F_Fault_refuse n o7 21 x9 σ10) fun x11 σ12 =>
kf_z x11 (some (x11, σ12))) fun k4 =>
if (x2 &&& 15) = 8 then (
if (x2 >>> (4 &&& 31)) ≤ 7 then (
kf_let (pS σ3 (64 * t + 12) ((1 : Int32) <<< (((x2 >>> (4 &&& 31)) + 8) &&& 31))) fun σ13 =>
Option.bind (gR σ13 (64 * t + 0)) fun o14 =>
kf_c2 (F_PackedBits_number n o14 8 σ13) fun x15 σ16 =>
if x15 = (-1) then (
kf_z 0 (some (0, σ16))) else (
kf_nz 31 <|
kf_j (α := Int32) (fun x18 σ19 =>
kf_j (α := Int32) (fun x21 σ22 =>
kf_z x21 (some (x21, σ22))) fun k20 =>
kf_j (α := Unit) (fun x24 σ25 =>
k20 1 σ25) fun k23 =>
if x18 = 0 then (
Option.bind (gR σ19 (64 * t + 1)) fun o26 =>
Option.bind (gR σ19 (64 * t + 0)) fun o27 =>
kf_c2 (F_PackedBits_placeOf n o27 8 σ19) fun x28 σ29 =>
kf_c2 (F_Fault_refuse n o26 21 x28 σ29) fun x30 σ31 =>
if x30 = 0 then (
k20 0 σ31) else (
k23 () σ31)) else (
k23 () σ19)) fun k17 =>
kf_j (α := Unit) (fun x33 σ34 =>
k17 0 σ34) fun k32 =>
if (((x2 <<< (8 &&& 31)) ||| x15) - ((x2 <<< (8 &&& 31)) ||| x15) / 31 * 31) = 0 then (
if (x15 &&& 32) = 0 then (
k17 1 σ16) else (
k32 () σ16)) else (
k32 () σ16))) else (
k4 () σ3)) else (
k4 () σ3))
theorem d_Unpacker_takeHead_0 : decode prog_11_method_3_code 0 = .ok (.aload_n 0, 1) := by decide +kernel
theorem d_Unpacker_takeHead_1 : decode prog_11_method_3_code 1 = .ok (.getfield 36, 3) := by decide +kernel
theorem d_Unpacker_takeHead_4 : decode prog_11_method_3_code 4 = .ok (.bipush 8, 2) := by decide +kernel
theorem d_Unpacker_takeHead_6 : decode prog_11_method_3_code 6 = .ok (.invokevirtual 70, 3) := by decide +kernel
theorem d_Unpacker_takeHead_9 : decode prog_11_method_3_code 9 = .ok (.istore_n 1, 1) := by decide +kernel
theorem d_Unpacker_takeHead_10 : decode prog_11_method_3_code 10 = .ok (.iload_n 1, 1) := by decide +kernel
theorem d_Unpacker_takeHead_11 : decode prog_11_method_3_code 11 = .ok (.iconst (-1), 1) := by decide +kernel
theorem d_Unpacker_takeHead_12 : decode prog_11_method_3_code 12 = .ok (.if_icmp .ne 5, 3) := by decide +kernel
theorem d_Unpacker_takeHead_15 : decode prog_11_method_3_code 15 = .ok (.iconst 0, 1) := by decide +kernel
theorem d_Unpacker_takeHead_16 : decode prog_11_method_3_code 16 = .ok (.ireturn, 1) := by decide +kernel
theorem d_Unpacker_takeHead_17 : decode prog_11_method_3_code 17 = .ok (.iload_n 1, 1) := by decide +kernel
theorem d_Unpacker_takeHead_18 : decode prog_11_method_3_code 18 = .ok (.bipush 15, 2) := by decide +kernel
theorem d_Unpacker_takeHead_20 : decode prog_11_method_3_code 20 = .ok (.iand, 1) := by decide +kernel
theorem d_Unpacker_takeHead_21 : decode prog_11_method_3_code 21 = .ok (.bipush 8, 2) := by decide +kernel
theorem d_Unpacker_takeHead_23 : decode prog_11_method_3_code 23 = .ok (.if_icmp .ne 11, 3) := by decide +kernel
theorem d_Unpacker_takeHead_26 : decode prog_11_method_3_code 26 = .ok (.iload_n 1, 1) := by decide +kernel
theorem d_Unpacker_takeHead_27 : decode prog_11_method_3_code 27 = .ok (.iconst 4, 1) := by decide +kernel
theorem d_Unpacker_takeHead_28 : decode prog_11_method_3_code 28 = .ok (.ishr, 1) := by decide +kernel
theorem d_Unpacker_takeHead_29 : decode prog_11_method_3_code 29 = .ok (.bipush 7, 2) := by decide +kernel
theorem d_Unpacker_takeHead_31 : decode prog_11_method_3_code 31 = .ok (.if_icmp .le 21, 3) := by decide +kernel
theorem d_Unpacker_takeHead_34 : decode prog_11_method_3_code 34 = .ok (.aload_n 0, 1) := by decide +kernel
theorem d_Unpacker_takeHead_35 : decode prog_11_method_3_code 35 = .ok (.getfield 40, 3) := by decide +kernel
theorem d_Unpacker_takeHead_38 : decode prog_11_method_3_code 38 = .ok (.bipush 21, 2) := by decide +kernel
theorem d_Unpacker_takeHead_40 : decode prog_11_method_3_code 40 = .ok (.aload_n 0, 1) := by decide +kernel
theorem d_Unpacker_takeHead_41 : decode prog_11_method_3_code 41 = .ok (.getfield 36, 3) := by decide +kernel
theorem d_Unpacker_takeHead_44 : decode prog_11_method_3_code 44 = .ok (.iconst 0, 1) := by decide +kernel
theorem d_Unpacker_takeHead_45 : decode prog_11_method_3_code 45 = .ok (.invokevirtual 82, 3) := by decide +kernel
theorem d_Unpacker_takeHead_48 : decode prog_11_method_3_code 48 = .ok (.invokevirtual 85, 3) := by decide +kernel
theorem d_Unpacker_takeHead_51 : decode prog_11_method_3_code 51 = .ok (.ireturn, 1) := by decide +kernel
theorem d_Unpacker_takeHead_52 : decode prog_11_method_3_code 52 = .ok (.aload_n 0, 1) := by decide +kernel
theorem d_Unpacker_takeHead_53 : decode prog_11_method_3_code 53 = .ok (.iconst 1, 1) := by decide +kernel
theorem d_Unpacker_takeHead_54 : decode prog_11_method_3_code 54 = .ok (.iload_n 1, 1) := by decide +kernel
theorem d_Unpacker_takeHead_55 : decode prog_11_method_3_code 55 = .ok (.iconst 4, 1) := by decide +kernel
theorem d_Unpacker_takeHead_56 : decode prog_11_method_3_code 56 = .ok (.ishr, 1) := by decide +kernel
theorem d_Unpacker_takeHead_57 : decode prog_11_method_3_code 57 = .ok (.bipush 8, 2) := by decide +kernel
theorem d_Unpacker_takeHead_59 : decode prog_11_method_3_code 59 = .ok (.iadd, 1) := by decide +kernel
theorem d_Unpacker_takeHead_60 : decode prog_11_method_3_code 60 = .ok (.ishl, 1) := by decide +kernel
theorem d_Unpacker_takeHead_61 : decode prog_11_method_3_code 61 = .ok (.putfield 91, 3) := by decide +kernel
theorem d_Unpacker_takeHead_64 : decode prog_11_method_3_code 64 = .ok (.aload_n 0, 1) := by decide +kernel
theorem d_Unpacker_takeHead_65 : decode prog_11_method_3_code 65 = .ok (.getfield 36, 3) := by decide +kernel
theorem d_Unpacker_takeHead_68 : decode prog_11_method_3_code 68 = .ok (.bipush 8, 2) := by decide +kernel
theorem d_Unpacker_takeHead_70 : decode prog_11_method_3_code 70 = .ok (.invokevirtual 70, 3) := by decide +kernel
theorem d_Unpacker_takeHead_73 : decode prog_11_method_3_code 73 = .ok (.istore_n 2, 1) := by decide +kernel
theorem d_Unpacker_takeHead_74 : decode prog_11_method_3_code 74 = .ok (.iload_n 2, 1) := by decide +kernel
theorem d_Unpacker_takeHead_75 : decode prog_11_method_3_code 75 = .ok (.iconst (-1), 1) := by decide +kernel
theorem d_Unpacker_takeHead_76 : decode prog_11_method_3_code 76 = .ok (.if_icmp .ne 5, 3) := by decide +kernel
theorem d_Unpacker_takeHead_79 : decode prog_11_method_3_code 79 = .ok (.iconst 0, 1) := by decide +kernel
theorem d_Unpacker_takeHead_80 : decode prog_11_method_3_code 80 = .ok (.ireturn, 1) := by decide +kernel
theorem d_Unpacker_takeHead_81 : decode prog_11_method_3_code 81 = .ok (.iload_n 1, 1) := by decide +kernel
theorem d_Unpacker_takeHead_82 : decode prog_11_method_3_code 82 = .ok (.bipush 8, 2) := by decide +kernel
theorem d_Unpacker_takeHead_84 : decode prog_11_method_3_code 84 = .ok (.ishl, 1) := by decide +kernel
theorem d_Unpacker_takeHead_85 : decode prog_11_method_3_code 85 = .ok (.iload_n 2, 1) := by decide +kernel
theorem d_Unpacker_takeHead_86 : decode prog_11_method_3_code 86 = .ok (.ior, 1) := by decide +kernel
theorem d_Unpacker_takeHead_87 : decode prog_11_method_3_code 87 = .ok (.bipush 31, 2) := by decide +kernel
theorem d_Unpacker_takeHead_89 : decode prog_11_method_3_code 89 = .ok (.irem, 1) := by decide +kernel
theorem d_Unpacker_takeHead_90 : decode prog_11_method_3_code 90 = .ok (.ifCond .ne 14, 3) := by decide +kernel
theorem d_Unpacker_takeHead_93 : decode prog_11_method_3_code 93 = .ok (.iload_n 2, 1) := by decide +kernel
theorem d_Unpacker_takeHead_94 : decode prog_11_method_3_code 94 = .ok (.bipush 32, 2) := by decide +kernel
theorem d_Unpacker_takeHead_96 : decode prog_11_method_3_code 96 = .ok (.iand, 1) := by decide +kernel
theorem d_Unpacker_takeHead_97 : decode prog_11_method_3_code 97 = .ok (.ifCond .ne 7, 3) := by decide +kernel
theorem d_Unpacker_takeHead_100 : decode prog_11_method_3_code 100 = .ok (.iconst 1, 1) := by decide +kernel
theorem d_Unpacker_takeHead_101 : decode prog_11_method_3_code 101 = .ok (.goto 4, 3) := by decide +kernel
theorem d_Unpacker_takeHead_104 : decode prog_11_method_3_code 104 = .ok (.iconst 0, 1) := by decide +kernel
theorem d_Unpacker_takeHead_105 : decode prog_11_method_3_code 105 = .ok (.istore_n 3, 1) := by decide +kernel
theorem d_Unpacker_takeHead_106 : decode prog_11_method_3_code 106 = .ok (.iload_n 3, 1) := by decide +kernel
theorem d_Unpacker_takeHead_107 : decode prog_11_method_3_code 107 = .ok (.ifCond .ne 24, 3) := by decide +kernel
theorem d_Unpacker_takeHead_110 : decode prog_11_method_3_code 110 = .ok (.aload_n 0, 1) := by decide +kernel
theorem d_Unpacker_takeHead_111 : decode prog_11_method_3_code 111 = .ok (.getfield 40, 3) := by decide +kernel
theorem d_Unpacker_takeHead_114 : decode prog_11_method_3_code 114 = .ok (.bipush 21, 2) := by decide +kernel
theorem d_Unpacker_takeHead_116 : decode prog_11_method_3_code 116 = .ok (.aload_n 0, 1) := by decide +kernel
theorem d_Unpacker_takeHead_117 : decode prog_11_method_3_code 117 = .ok (.getfield 36, 3) := by decide +kernel
theorem d_Unpacker_takeHead_120 : decode prog_11_method_3_code 120 = .ok (.bipush 8, 2) := by decide +kernel
theorem d_Unpacker_takeHead_122 : decode prog_11_method_3_code 122 = .ok (.invokevirtual 82, 3) := by decide +kernel
theorem d_Unpacker_takeHead_125 : decode prog_11_method_3_code 125 = .ok (.invokevirtual 85, 3) := by decide +kernel
theorem d_Unpacker_takeHead_128 : decode prog_11_method_3_code 128 = .ok (.ifCond .eq 7, 3) := by decide +kernel
theorem d_Unpacker_takeHead_131 : decode prog_11_method_3_code 131 = .ok (.iconst 1, 1) := by decide +kernel
theorem d_Unpacker_takeHead_132 : decode prog_11_method_3_code 132 = .ok (.goto 4, 3) := by decide +kernel
theorem d_Unpacker_takeHead_135 : decode prog_11_method_3_code 135 = .ok (.iconst 0, 1) := by decide +kernel
theorem d_Unpacker_takeHead_136 : decode prog_11_method_3_code 136 = .ok (.ireturn, 1) := by decide +kernel
set_option maxRecDepth 100000 in
set_option maxHeartbeats 4000000 in
theorem c_Unpacker_takeHead {l0 : Launch} (hl : l0.stackTraces = false) (n : Nat) (ids : List Nat) {t : Nat} (ht : mm_ok ids t 1 6)  (σ : Mm) : kw_C l0 y_Unpacker_takeHead (Cond.code y_Unpacker_takeHead prog_11_method_3_code 4 (some .boolean) :: kw_Ts) rm_Unpacker_takeHead kw_oi ids [] [.ref t] σ (F_Unpacker_takeHead n t σ) := by
  refine kw_start (L0 := [some (.ref t), none, none, none]) hl (by decide +kernel) (Nat.le_of_ble_eq_true rfl) rfl (fun Γ ad C Ce => ?_)
  unfold F_Unpacker_takeHead
  refine kw_aload_n C d_Unpacker_takeHead_0 rfl ?_
  refine kw_getR C fi_Unpacker_36 rfl rfl ht d_Unpacker_takeHead_1 (fun o1 ho1 => ?_)
  refine kw_bipush (v := 8) C d_Unpacker_takeHead_4 (by decide) ?_
  refine kw_callVi (cl' := 0) (sl' := 0) (As := [.int 8]) C (c_PackedBits_number hl n ids ho1 8 σ) mi_Unpacker_70 v_PackedBits_number ⟨_, _, rfl⟩ ho1 ⟨Nat.le_of_ble_eq_true rfl, Nat.le_of_ble_eq_true rfl⟩ (Nat.le_of_ble_eq_true rfl) ⟨Nat.le_of_ble_eq_true rfl, Nat.le_of_ble_eq_true rfl⟩ ⟨rfl, rfl⟩ rfl d_Unpacker_takeHead_6 (fun x2 σ3 => ?_)
  refine kw_istore_n (L' := [some (.ref t), some (.int x2), none, none]) C d_Unpacker_takeHead_9 (by decide) rfl ?_
  refine kw_iload_n C d_Unpacker_takeHead_10 rfl ?_
  refine kw_iconst (v := -1) C d_Unpacker_takeHead_11 (by decide) ?_
  refine kw_icmp_ne (tgt := 17) C d_Unpacker_takeHead_12 (by decide) ?_ ?_
  · refine kw_iload_n C d_Unpacker_takeHead_17 rfl ?_
    refine kw_bipush (v := 15) C d_Unpacker_takeHead_18 (by decide) ?_
    refine kw_iand C d_Unpacker_takeHead_20 ?_
    refine kw_bipush (v := 8) C d_Unpacker_takeHead_21 (by decide) ?_
    refine kw_j (α := Unit) (pcj := 34) (Lj := fun x5 => [some (.ref t), none, none, none]) (stj := fun x5 => []) (fun x5 σ6 => ?_) (fun k4 hk4 => ?_)
    · refine kw_aload_n C d_Unpacker_takeHead_34 rfl ?_
      refine kw_getR C fi_Unpacker_40 rfl rfl ht d_Unpacker_takeHead_35 (fun o7 ho7 => ?_)
      refine kw_bipush (v := 21) C d_Unpacker_takeHead_38 (by decide) ?_
      refine kw_aload_n C d_Unpacker_takeHead_40 rfl ?_
      refine kw_getR C fi_Unpacker_36 rfl rfl ht d_Unpacker_takeHead_41 (fun o8 ho8 => ?_)
      refine kw_iconst (v := 0) C d_Unpacker_takeHead_44 (by decide) ?_
      refine kw_callVi (cl' := 0) (sl' := 0) (As := [.int 0]) C (c_PackedBits_placeOf hl n ids ho8 0 σ6) mi_Unpacker_82 v_PackedBits_placeOf ⟨_, _, rfl⟩ ho8 ⟨Nat.le_of_ble_eq_true rfl, Nat.le_of_ble_eq_true rfl⟩ (Nat.le_of_ble_eq_true rfl) ⟨Nat.le_of_ble_eq_true rfl, Nat.le_of_ble_eq_true rfl⟩ ⟨rfl, rfl⟩ rfl d_Unpacker_takeHead_45 (fun x9 σ10 => ?_)
      refine kw_callVi (cl' := 0) (sl' := 0) (As := [.int 21, .int x9]) C (c_Fault_refuse hl n ids ho7 21 x9 σ10) mi_Unpacker_85 v_Fault_refuse ⟨_, _, rfl⟩ ho7 ⟨Nat.le_of_ble_eq_true rfl, Nat.le_of_ble_eq_true rfl⟩ (Nat.le_of_ble_eq_true rfl) ⟨Nat.le_of_ble_eq_true rfl, Nat.le_of_ble_eq_true rfl⟩ ⟨rfl, rfl⟩ rfl d_Unpacker_takeHead_48 (fun x11 σ12 => ?_)
      exact kw_zret C Ce rfl (by simp) (fun _ _ => rfl) (Nat.le_of_ble_eq_true rfl) (Nat.le_of_ble_eq_true rfl) rfl d_Unpacker_takeHead_51
    · refine kw_icmp_ne (tgt := 34) C d_Unpacker_takeHead_23 (by decide) ?_ ?_
      · exact kw_wk (hk4 () σ3) ⟨Or.inr rfl, Or.inl rfl, Or.inl rfl, Or.inl rfl, trivial⟩
      · refine kw_iload_n C d_Unpacker_takeHead_26 rfl ?_
        refine kw_iconst (v := 4) C d_Unpacker_takeHead_27 (by decide) ?_
        refine kw_ishr C d_Unpacker_takeHead_28 ?_
        refine kw_bipush (v := 7) C d_Unpacker_takeHead_29 (by decide) ?_
        refine kw_icmp_le (tgt := 52) C d_Unpacker_takeHead_31 (by decide) ?_ ?_
        · refine kw_aload_n C d_Unpacker_takeHead_52 rfl ?_
          refine kw_iconst (v := 1) C d_Unpacker_takeHead_53 (by decide) ?_
          refine kw_iload_n C d_Unpacker_takeHead_54 rfl ?_
          refine kw_iconst (v := 4) C d_Unpacker_takeHead_55 (by decide) ?_
          refine kw_ishr C d_Unpacker_takeHead_56 ?_
          refine kw_bipush (v := 8) C d_Unpacker_takeHead_57 (by decide) ?_
          refine kw_iadd C d_Unpacker_takeHead_59 ?_
          refine kw_ishl C d_Unpacker_takeHead_60 ?_
          refine kw_putI C fi_Unpacker_91 rfl ht d_Unpacker_takeHead_61 (fun σ13 => ?_)
          refine kw_aload_n C d_Unpacker_takeHead_64 rfl ?_
          refine kw_getR C fi_Unpacker_36 rfl rfl ht d_Unpacker_takeHead_65 (fun o14 ho14 => ?_)
          refine kw_bipush (v := 8) C d_Unpacker_takeHead_68 (by decide) ?_
          refine kw_callVi (cl' := 0) (sl' := 0) (As := [.int 8]) C (c_PackedBits_number hl n ids ho14 8 σ13) mi_Unpacker_70 v_PackedBits_number ⟨_, _, rfl⟩ ho14 ⟨Nat.le_of_ble_eq_true rfl, Nat.le_of_ble_eq_true rfl⟩ (Nat.le_of_ble_eq_true rfl) ⟨Nat.le_of_ble_eq_true rfl, Nat.le_of_ble_eq_true rfl⟩ ⟨rfl, rfl⟩ rfl d_Unpacker_takeHead_70 (fun x15 σ16 => ?_)
          refine kw_istore_n (L' := [some (.ref t), some (.int x2), some (.int x15), none]) C d_Unpacker_takeHead_73 (by decide) rfl ?_
          refine kw_iload_n C d_Unpacker_takeHead_74 rfl ?_
          refine kw_iconst (v := -1) C d_Unpacker_takeHead_75 (by decide) ?_
          refine kw_icmp_ne (tgt := 81) C d_Unpacker_takeHead_76 (by decide) ?_ ?_
          · refine kw_iload_n C d_Unpacker_takeHead_81 rfl ?_
            refine kw_bipush (v := 8) C d_Unpacker_takeHead_82 (by decide) ?_
            refine kw_ishl C d_Unpacker_takeHead_84 ?_
            refine kw_iload_n C d_Unpacker_takeHead_85 rfl ?_
            refine kw_ior C d_Unpacker_takeHead_86 ?_
            refine kw_bipush (v := 31) C d_Unpacker_takeHead_87 (by decide) ?_
            refine kw_irem C d_Unpacker_takeHead_89 ?_
            refine kw_j (α := Int32) (pcj := 105) (Lj := fun x18 => [some (.ref t), none, none, none]) (stj := fun x18 => [.int x18]) (fun x18 σ19 => ?_) (fun k17 hk17 => ?_)
            · refine kw_istore_n (L' := [some (.ref t), none, none, some (.int x18)]) C d_Unpacker_takeHead_105 (by decide) rfl ?_
              refine kw_iload_n C d_Unpacker_takeHead_106 rfl ?_
              refine kw_j (α := Int32) (pcj := 136) (Lj := fun x21 => [none, none, none, none]) (stj := fun x21 => [.int x21]) (fun x21 σ22 => ?_) (fun k20 hk20 => ?_)
              · exact kw_zret C Ce rfl (by simp) (fun _ _ => rfl) (Nat.le_of_ble_eq_true rfl) (Nat.le_of_ble_eq_true rfl) rfl d_Unpacker_takeHead_136
              · refine kw_j (α := Unit) (pcj := 131) (Lj := fun x24 => [none, none, none, none]) (stj := fun x24 => []) (fun x24 σ25 => ?_) (fun k23 hk23 => ?_)
                · refine kw_iconst (v := 1) C d_Unpacker_takeHead_131 (by decide) ?_
                  refine kw_goto (tgt := 136) C d_Unpacker_takeHead_132 (by decide) ?_
                  exact kw_wk (hk20 1 σ25) ⟨Or.inl rfl, Or.inl rfl, Or.inl rfl, Or.inl rfl, trivial⟩
                · refine kw_if_ne (tgt := 131) C d_Unpacker_takeHead_107 (by decide) ?_ ?_
                  · exact kw_wk (hk23 () σ19) ⟨Or.inl rfl, Or.inl rfl, Or.inl rfl, Or.inl rfl, trivial⟩
                  · refine kw_aload_n C d_Unpacker_takeHead_110 rfl ?_
                    refine kw_getR C fi_Unpacker_40 rfl rfl ht d_Unpacker_takeHead_111 (fun o26 ho26 => ?_)
                    refine kw_bipush (v := 21) C d_Unpacker_takeHead_114 (by decide) ?_
                    refine kw_aload_n C d_Unpacker_takeHead_116 rfl ?_
                    refine kw_getR C fi_Unpacker_36 rfl rfl ht d_Unpacker_takeHead_117 (fun o27 ho27 => ?_)
                    refine kw_bipush (v := 8) C d_Unpacker_takeHead_120 (by decide) ?_
                    refine kw_callVi (cl' := 0) (sl' := 0) (As := [.int 8]) C (c_PackedBits_placeOf hl n ids ho27 8 σ19) mi_Unpacker_82 v_PackedBits_placeOf ⟨_, _, rfl⟩ ho27 ⟨Nat.le_of_ble_eq_true rfl, Nat.le_of_ble_eq_true rfl⟩ (Nat.le_of_ble_eq_true rfl) ⟨Nat.le_of_ble_eq_true rfl, Nat.le_of_ble_eq_true rfl⟩ ⟨rfl, rfl⟩ rfl d_Unpacker_takeHead_122 (fun x28 σ29 => ?_)
                    refine kw_callVi (cl' := 0) (sl' := 0) (As := [.int 21, .int x28]) C (c_Fault_refuse hl n ids ho26 21 x28 σ29) mi_Unpacker_85 v_Fault_refuse ⟨_, _, rfl⟩ ho26 ⟨Nat.le_of_ble_eq_true rfl, Nat.le_of_ble_eq_true rfl⟩ (Nat.le_of_ble_eq_true rfl) ⟨Nat.le_of_ble_eq_true rfl, Nat.le_of_ble_eq_true rfl⟩ ⟨rfl, rfl⟩ rfl d_Unpacker_takeHead_125 (fun x30 σ31 => ?_)
                    refine kw_if_eq (tgt := 135) C d_Unpacker_takeHead_128 (by decide) ?_ ?_
                    · refine kw_iconst (v := 0) C d_Unpacker_takeHead_135 (by decide) ?_
                      exact kw_wk (hk20 0 σ31) ⟨Or.inl rfl, Or.inl rfl, Or.inl rfl, Or.inl rfl, trivial⟩
                    · exact kw_wk (hk23 () σ31) ⟨Or.inl rfl, Or.inl rfl, Or.inl rfl, Or.inl rfl, trivial⟩
            · refine kw_j (α := Unit) (pcj := 104) (Lj := fun x33 => [some (.ref t), none, none, none]) (stj := fun x33 => []) (fun x33 σ34 => ?_) (fun k32 hk32 => ?_)
              · refine kw_iconst (v := 0) C d_Unpacker_takeHead_104 (by decide) ?_
                exact kw_wk (hk17 0 σ34) ⟨Or.inr rfl, Or.inl rfl, Or.inl rfl, Or.inl rfl, trivial⟩
              · refine kw_if_ne (tgt := 104) C d_Unpacker_takeHead_90 (by decide) ?_ ?_
                · exact kw_wk (hk32 () σ16) ⟨Or.inr rfl, Or.inl rfl, Or.inl rfl, Or.inl rfl, trivial⟩
                · refine kw_iload_n C d_Unpacker_takeHead_93 rfl ?_
                  refine kw_bipush (v := 32) C d_Unpacker_takeHead_94 (by decide) ?_
                  refine kw_iand C d_Unpacker_takeHead_96 ?_
                  refine kw_if_ne (tgt := 104) C d_Unpacker_takeHead_97 (by decide) ?_ ?_
                  · exact kw_wk (hk32 () σ16) ⟨Or.inr rfl, Or.inl rfl, Or.inl rfl, Or.inl rfl, trivial⟩
                  · refine kw_iconst (v := 1) C d_Unpacker_takeHead_100 (by decide) ?_
                    refine kw_goto (tgt := 105) C d_Unpacker_takeHead_101 (by decide) ?_
                    exact kw_wk (hk17 1 σ16) ⟨Or.inr rfl, Or.inl rfl, Or.inl rfl, Or.inl rfl, trivial⟩
          · refine kw_iconst (v := 0) C d_Unpacker_takeHead_79 (by decide) ?_
            exact kw_zret C Ce rfl (by simp) (fun _ _ => rfl) (Nat.le_of_ble_eq_true rfl) (Nat.le_of_ble_eq_true rfl) rfl d_Unpacker_takeHead_80
        · exact kw_wk (hk4 () σ3) ⟨Or.inr rfl, Or.inl rfl, Or.inl rfl, Or.inl rfl, trivial⟩
  · refine kw_iconst (v := 0) C d_Unpacker_takeHead_15 (by decide) ?_
    exact kw_zret C Ce rfl (by simp) (fun _ _ => rfl) (Nat.le_of_ble_eq_true rfl) (Nat.le_of_ble_eq_true rfl) rfl d_Unpacker_takeHead_16
/-! PackedBits_leaveByte -/
def rm_PackedBits_leaveByte : Room := { frames := 0, cells := 0, slots := 0, locals := 0 }
def F_PackedBits_leaveByte (n : Nat) (t : Nat) (σ : Mm) : Option (Mm) :=
kf_nz 8 <|
kf_let (pS σ (64 * t + 5) ((((gS σ (64 * t + 5)) + 7) / 8) * 8)) fun σ1 =>
some σ1
theorem d_PackedBits_leaveByte_0 : decode prog_5_method_8_code 0 = .ok (.aload_n 0, 1) := by decide +kernel
theorem d_PackedBits_leaveByte_1 : decode prog_5_method_8_code 1 = .ok (.aload_n 0, 1) := by decide +kernel
theorem d_PackedBits_leaveByte_2 : decode prog_5_method_8_code 2 = .ok (.getfield 33, 3) := by decide +kernel
theorem d_PackedBits_leaveByte_5 : decode prog_5_method_8_code 5 = .ok (.bipush 7, 2) := by decide +kernel
theorem d_PackedBits_leaveByte_7 : decode prog_5_method_8_code 7 = .ok (.iadd, 1) := by decide +kernel
theorem d_PackedBits_leaveByte_8 : decode prog_5_method_8_code 8 = .ok (.bipush 8, 2) := by decide +kernel
theorem d_PackedBits_leaveByte_10 : decode prog_5_method_8_code 10 = .ok (.idiv, 1) := by decide +kernel
theorem d_PackedBits_leaveByte_11 : decode prog_5_method_8_code 11 = .ok (.bipush 8, 2) := by decide +kernel
theorem d_PackedBits_leaveByte_13 : decode prog_5_method_8_code 13 = .ok (.imul, 1) := by decide +kernel
theorem d_PackedBits_leaveByte_14 : decode prog_5_method_8_code 14 = .ok (.putfield 33, 3) := by decide +kernel
theorem d_PackedBits_leaveByte_17 : decode prog_5_method_8_code 17 = .ok (.return_, 1) := by decide +kernel
set_option maxRecDepth 100000 in
set_option maxHeartbeats 4000000 in
theorem c_PackedBits_leaveByte {l0 : Launch} (hl : l0.stackTraces = false) (n : Nat) (ids : List Nat) {t : Nat} (ht : mm_ok ids t 1 4)  (σ : Mm) : kw_C l0 y_PackedBits_leaveByte (Cond.code y_PackedBits_leaveByte prog_5_method_8_code 1 none :: kw_Ts) rm_PackedBits_leaveByte kw_ov ids [] [.ref t] σ (F_PackedBits_leaveByte n t σ) := by
  refine kw_start (L0 := [some (.ref t)]) hl (by decide +kernel) (Nat.le_of_ble_eq_true rfl) rfl (fun Γ ad C Ce => ?_)
  unfold F_PackedBits_leaveByte
  refine kw_aload_n C d_PackedBits_leaveByte_0 rfl ?_
  refine kw_aload_n C d_PackedBits_leaveByte_1 rfl ?_
  refine kw_getI C fi_PackedBits_33 (Or.inl rfl) ht d_PackedBits_leaveByte_2 ?_
  refine kw_bipush (v := 7) C d_PackedBits_leaveByte_5 (by decide) ?_
  refine kw_iadd C d_PackedBits_leaveByte_7 ?_
  refine kw_bipush (v := 8) C d_PackedBits_leaveByte_8 (by decide) ?_
  refine kw_idiv C d_PackedBits_leaveByte_10 ?_
  refine kw_bipush (v := 8) C d_PackedBits_leaveByte_11 (by decide) ?_
  refine kw_imul C d_PackedBits_leaveByte_13 ?_
  refine kw_putI C fi_PackedBits_33 rfl ht d_PackedBits_leaveByte_14 (fun σ1 => ?_)
  exact kw_vret C Ce rfl (by simp) (fun _ _ => rfl) (Nat.le_of_ble_eq_true rfl) (Nat.le_of_ble_eq_true rfl) rfl d_PackedBits_leaveByte_17
/-! Unpacker_putByte -/
def rm_Unpacker_putByte : Room := { frames := 1, cells := 0, slots := 0, locals := 22 }
def F_Unpacker_putByte (n : Nat) (t : Nat) (a0 : Int32) (a1 : Int32) (σ : Mm) : Option (Int32 × Mm) :=
if (gS σ (64 * t + 11)) < (gS σ (64 * t + 10)) then (
Option.bind (gR σ (64 * t + 3)) fun o1 =>
kf_in (gS σ (64 * t + 11)) (mm_kd o1).2.2 <| kf_let (pB σ o1 (gS σ (64 * t + 11)).toNatClampNeg a0) fun σ2 =>
kf_let (pS σ2 (64 * t + 11) ((gS σ2 (64 * t + 11)) + 1)) fun σ3 =>
kf_z 1 (some (1, σ3))) else (
Option.bind (gR σ (64 * t + 1)) fun o4 =>
Option.bind (gR σ (64 * t + 0)) fun o5 =>
kf_c2 (F_PackedBits_placeOf n o5 a1 σ) fun x6 σ7 =>
kf_c2 (F_Fault_refuse n o4 26 x6 σ7) fun x8 σ9 =>
kf_z x8 (some (x8, σ9)))
theorem d_Unpacker_putByte_0 : decode prog_11_method_6_code 0 = .ok (.aload_n 0, 1) := by decide +kernel
theorem d_Unpacker_putByte_1 : decode prog_11_method_6_code 1 = .ok (.getfield 62, 3) := by decide +kernel
theorem d_Unpacker_putByte_4 : decode prog_11_method_6_code 4 = .ok (.aload_n 0, 1) := by decide +kernel
theorem d_Unpacker_putByte_5 : decode prog_11_method_6_code 5 = .ok (.getfield 58, 3) := by decide +kernel
theorem d_Unpacker_putByte_8 : decode prog_11_method_6_code 8 = .ok (.if_icmp .lt 21, 3) := by decide +kernel
theorem d_Unpacker_putByte_11 : decode prog_11_method_6_code 11 = .ok (.aload_n 0, 1) := by decide +kernel
theorem d_Unpacker_putByte_12 : decode prog_11_method_6_code 12 = .ok (.getfield 40, 3) := by decide +kernel
theorem d_Unpacker_putByte_15 : decode prog_11_method_6_code 15 = .ok (.bipush 26, 2) := by decide +kernel
theorem d_Unpacker_putByte_17 : decode prog_11_method_6_code 17 = .ok (.aload_n 0, 1) := by decide +kernel
theorem d_Unpacker_putByte_18 : decode prog_11_method_6_code 18 = .ok (.getfield 36, 3) := by decide +kernel
theorem d_Unpacker_putByte_21 : decode prog_11_method_6_code 21 = .ok (.iload_n 2, 1) := by decide +kernel
theorem d_Unpacker_putByte_22 : decode prog_11_method_6_code 22 = .ok (.invokevirtual 82, 3) := by decide +kernel
theorem d_Unpacker_putByte_25 : decode prog_11_method_6_code 25 = .ok (.invokevirtual 85, 3) := by decide +kernel
theorem d_Unpacker_putByte_28 : decode prog_11_method_6_code 28 = .ok (.ireturn, 1) := by decide +kernel
theorem d_Unpacker_putByte_29 : decode prog_11_method_6_code 29 = .ok (.aload_n 0, 1) := by decide +kernel
theorem d_Unpacker_putByte_30 : decode prog_11_method_6_code 30 = .ok (.getfield 53, 3) := by decide +kernel
theorem d_Unpacker_putByte_33 : decode prog_11_method_6_code 33 = .ok (.aload_n 0, 1) := by decide +kernel
theorem d_Unpacker_putByte_34 : decode prog_11_method_6_code 34 = .ok (.getfield 62, 3) := by decide +kernel
theorem d_Unpacker_putByte_37 : decode prog_11_method_6_code 37 = .ok (.iload_n 1, 1) := by decide +kernel
theorem d_Unpacker_putByte_38 : decode prog_11_method_6_code 38 = .ok (.iastore, 1) := by decide +kernel
theorem d_Unpacker_putByte_39 : decode prog_11_method_6_code 39 = .ok (.aload_n 0, 1) := by decide +kernel
theorem d_Unpacker_putByte_40 : decode prog_11_method_6_code 40 = .ok (.dup, 1) := by decide +kernel
theorem d_Unpacker_putByte_41 : decode prog_11_method_6_code 41 = .ok (.getfield 62, 3) := by decide +kernel
theorem d_Unpacker_putByte_44 : decode prog_11_method_6_code 44 = .ok (.iconst 1, 1) := by decide +kernel
theorem d_Unpacker_putByte_45 : decode prog_11_method_6_code 45 = .ok (.iadd, 1) := by decide +kernel
theorem d_Unpacker_putByte_46 : decode prog_11_method_6_code 46 = .ok (.putfield 62, 3) := by decide +kernel
theorem d_Unpacker_putByte_49 : decode prog_11_method_6_code 49 = .ok (.iconst 1, 1) := by decide +kernel
theorem d_Unpacker_putByte_50 : decode prog_11_method_6_code 50 = .ok (.ireturn, 1) := by decide +kernel
set_option maxRecDepth 100000 in
set_option maxHeartbeats 4000000 in
theorem c_Unpacker_putByte {l0 : Launch} (hl : l0.stackTraces = false) (n : Nat) (ids : List Nat) {t : Nat} (ht : mm_ok ids t 1 6) (a0 : Int32) (a1 : Int32) (σ : Mm) : kw_C l0 y_Unpacker_putByte (Cond.code y_Unpacker_putByte prog_11_method_6_code 3 (some .boolean) :: kw_Ts) rm_Unpacker_putByte kw_oi ids [] [.ref t, .int a0, .int a1] σ (F_Unpacker_putByte n t a0 a1 σ) := by
  refine kw_start (L0 := [some (.ref t), some (.int a0), some (.int a1)]) hl (by decide +kernel) (Nat.le_of_ble_eq_true rfl) rfl (fun Γ ad C Ce => ?_)
  unfold F_Unpacker_putByte
  refine kw_aload_n C d_Unpacker_putByte_0 rfl ?_
  refine kw_getI C fi_Unpacker_62 (Or.inl rfl) ht d_Unpacker_putByte_1 ?_
  refine kw_aload_n C d_Unpacker_putByte_4 rfl ?_
  refine kw_getI C fi_Unpacker_58 (Or.inl rfl) ht d_Unpacker_putByte_5 ?_
  refine kw_icmp_lt (tgt := 29) C d_Unpacker_putByte_8 (by decide) ?_ ?_
  · refine kw_aload_n C d_Unpacker_putByte_29 rfl ?_
    refine kw_getR C fi_Unpacker_53 rfl rfl ht d_Unpacker_putByte_30 (fun o1 ho1 => ?_)
    refine kw_aload_n C d_Unpacker_putByte_33 rfl ?_
    refine kw_getI C fi_Unpacker_62 (Or.inl rfl) ht d_Unpacker_putByte_34 ?_
    refine kw_iload_n C d_Unpacker_putByte_37 rfl ?_
    refine kw_iast C ho1 d_Unpacker_putByte_38 (fun σ2 => ?_)
    refine kw_aload_n C d_Unpacker_putByte_39 rfl ?_
    refine kw_dup C d_Unpacker_putByte_40 rfl ?_
    refine kw_getI C fi_Unpacker_62 (Or.inl rfl) ht d_Unpacker_putByte_41 ?_
    refine kw_iconst (v := 1) C d_Unpacker_putByte_44 (by decide) ?_
    refine kw_iadd C d_Unpacker_putByte_45 ?_
    refine kw_putI C fi_Unpacker_62 rfl ht d_Unpacker_putByte_46 (fun σ3 => ?_)
    refine kw_iconst (v := 1) C d_Unpacker_putByte_49 (by decide) ?_
    exact kw_zret C Ce rfl (by simp) (fun _ _ => rfl) (Nat.le_of_ble_eq_true rfl) (Nat.le_of_ble_eq_true rfl) rfl d_Unpacker_putByte_50
  · refine kw_aload_n C d_Unpacker_putByte_11 rfl ?_
    refine kw_getR C fi_Unpacker_40 rfl rfl ht d_Unpacker_putByte_12 (fun o4 ho4 => ?_)
    refine kw_bipush (v := 26) C d_Unpacker_putByte_15 (by decide) ?_
    refine kw_aload_n C d_Unpacker_putByte_17 rfl ?_
    refine kw_getR C fi_Unpacker_36 rfl rfl ht d_Unpacker_putByte_18 (fun o5 ho5 => ?_)
    refine kw_iload_n C d_Unpacker_putByte_21 rfl ?_
    refine kw_callVi (cl' := 0) (sl' := 0) (As := [.int a1]) C (c_PackedBits_placeOf hl n ids ho5 a1 σ) mi_Unpacker_82 v_PackedBits_placeOf ⟨_, _, rfl⟩ ho5 ⟨Nat.le_of_ble_eq_true rfl, Nat.le_of_ble_eq_true rfl⟩ (Nat.le_of_ble_eq_true rfl) ⟨Nat.le_of_ble_eq_true rfl, Nat.le_of_ble_eq_true rfl⟩ ⟨rfl, rfl⟩ rfl d_Unpacker_putByte_22 (fun x6 σ7 => ?_)
    refine kw_callVi (cl' := 0) (sl' := 0) (As := [.int 26, .int x6]) C (c_Fault_refuse hl n ids ho4 26 x6 σ7) mi_Unpacker_85 v_Fault_refuse ⟨_, _, rfl⟩ ho4 ⟨Nat.le_of_ble_eq_true rfl, Nat.le_of_ble_eq_true rfl⟩ (Nat.le_of_ble_eq_true rfl) ⟨Nat.le_of_ble_eq_true rfl, Nat.le_of_ble_eq_true rfl⟩ ⟨rfl, rfl⟩ rfl d_Unpacker_putByte_25 (fun x8 σ9 => ?_)
    exact kw_zret C Ce rfl (by simp) (fun _ _ => rfl) (Nat.le_of_ble_eq_true rfl) (Nat.le_of_ble_eq_true rfl) rfl d_Unpacker_putByte_28
/-! Unpacker_takePlain -/
def rm_Unpacker_takePlain : Room := { frames := 2, cells := 0, slots := 0, locals := 44 }
def F_Unpacker_takePlain (n : Nat) (t : Nat) (σ : Mm) : Option (Int32 × Mm) :=
Option.bind (gR σ (64 * t + 0)) fun o1 =>
Option.bind (F_PackedBits_leaveByte n o1 σ) fun σ2 =>
Option.bind (gR σ2 (64 * t + 0)) fun o3 =>
kf_c2 (F_PackedBits_number n o3 16 σ2) fun x4 σ5 =>
if x4 = (-1) then (
kf_z 0 (some (0, σ5))) else (
Option.bind (gR σ5 (64 * t + 0)) fun o6 =>
kf_let (gS σ5 (64 * o6 + 5) : Int32) fun x7 =>
Option.bind (gR σ5 (64 * t + 0)) fun o8 =>
kf_c2 (F_PackedBits_number n o8 16 σ5) fun x9 σ10 =>
if x9 = (-1) then (
kf_z 0 (some (0, σ10))) else (
if (x4 ^^^ x9) = 65535 then (
kf_l (α := Int32) n (fun k11 x12 σ13 =>
if x4 ≤ x12 then (
kf_z 1 (some (1, σ13))) else (
Option.bind (gR σ13 (64 * t + 0)) fun o14 =>
kf_let (gS σ13 (64 * o14 + 5) : Int32) fun x15 =>
Option.bind (gR σ13 (64 * t + 0)) fun o16 =>
kf_c2 (F_PackedBits_number n o16 8 σ13) fun x17 σ18 =>
kf_j (α := Unit) (fun x20 σ21 =>
kf_z 0 (some (0, σ21))) fun k19 =>
if x17 = (-1) then (
k19 () σ18) else (
kf_c2 (F_Unpacker_putByte n t x17 x15 σ18) fun x22 σ23 =>
if x22 = 0 then (
k19 () σ23) else (
kf_let (x12 + Int32.ofInt 1) fun x24 =>
k11 x24 σ23)))) 0 σ10) else (
Option.bind (gR σ10 (64 * t + 1)) fun o25 =>
Option.bind (gR σ10 (64 * t + 0)) fun o26 =>
kf_c2 (F_PackedBits_placeOf n o26 x7 σ10) fun x27 σ28 =>
kf_c2 (F_Fault_refuse n o25 23 x27 σ28) fun x29 σ30 =>
kf_z x29 (some (x29, σ30)))))
theorem d_Unpacker_takePlain_0 : decode prog_11_method_5_code 0 = .ok (.aload_n 0, 1) := by decide +kernel
theorem d_Unpacker_takePlain_1 : decode prog_11_method_5_code 1 = .ok (.getfield 36, 3) := by decide +kernel
theorem d_Unpacker_takePlain_4 : decode prog_11_method_5_code 4 = .ok (.invokevirtual 107, 3) := by decide +kernel
theorem d_Unpacker_takePlain_7 : decode prog_11_method_5_code 7 = .ok (.aload_n 0, 1) := by decide +kernel
theorem d_Unpacker_takePlain_8 : decode prog_11_method_5_code 8 = .ok (.getfield 36, 3) := by decide +kernel
theorem d_Unpacker_takePlain_11 : decode prog_11_method_5_code 11 = .ok (.bipush 16, 2) := by decide +kernel
theorem d_Unpacker_takePlain_13 : decode prog_11_method_5_code 13 = .ok (.invokevirtual 70, 3) := by decide +kernel
theorem d_Unpacker_takePlain_16 : decode prog_11_method_5_code 16 = .ok (.istore_n 1, 1) := by decide +kernel
theorem d_Unpacker_takePlain_17 : decode prog_11_method_5_code 17 = .ok (.iload_n 1, 1) := by decide +kernel
theorem d_Unpacker_takePlain_18 : decode prog_11_method_5_code 18 = .ok (.iconst (-1), 1) := by decide +kernel
theorem d_Unpacker_takePlain_19 : decode prog_11_method_5_code 19 = .ok (.if_icmp .ne 5, 3) := by decide +kernel
theorem d_Unpacker_takePlain_22 : decode prog_11_method_5_code 22 = .ok (.iconst 0, 1) := by decide +kernel
theorem d_Unpacker_takePlain_23 : decode prog_11_method_5_code 23 = .ok (.ireturn, 1) := by decide +kernel
theorem d_Unpacker_takePlain_24 : decode prog_11_method_5_code 24 = .ok (.aload_n 0, 1) := by decide +kernel
theorem d_Unpacker_takePlain_25 : decode prog_11_method_5_code 25 = .ok (.getfield 36, 3) := by decide +kernel
theorem d_Unpacker_takePlain_28 : decode prog_11_method_5_code 28 = .ok (.getfield 94, 3) := by decide +kernel
theorem d_Unpacker_takePlain_31 : decode prog_11_method_5_code 31 = .ok (.istore_n 2, 1) := by decide +kernel
theorem d_Unpacker_takePlain_32 : decode prog_11_method_5_code 32 = .ok (.aload_n 0, 1) := by decide +kernel
theorem d_Unpacker_takePlain_33 : decode prog_11_method_5_code 33 = .ok (.getfield 36, 3) := by decide +kernel
theorem d_Unpacker_takePlain_36 : decode prog_11_method_5_code 36 = .ok (.bipush 16, 2) := by decide +kernel
theorem d_Unpacker_takePlain_38 : decode prog_11_method_5_code 38 = .ok (.invokevirtual 70, 3) := by decide +kernel
theorem d_Unpacker_takePlain_41 : decode prog_11_method_5_code 41 = .ok (.istore_n 3, 1) := by decide +kernel
theorem d_Unpacker_takePlain_42 : decode prog_11_method_5_code 42 = .ok (.iload_n 3, 1) := by decide +kernel
theorem d_Unpacker_takePlain_43 : decode prog_11_method_5_code 43 = .ok (.iconst (-1), 1) := by decide +kernel
theorem d_Unpacker_takePlain_44 : decode prog_11_method_5_code 44 = .ok (.if_icmp .ne 5, 3) := by decide +kernel
theorem d_Unpacker_takePlain_47 : decode prog_11_method_5_code 47 = .ok (.iconst 0, 1) := by decide +kernel
theorem d_Unpacker_takePlain_48 : decode prog_11_method_5_code 48 = .ok (.ireturn, 1) := by decide +kernel
theorem d_Unpacker_takePlain_49 : decode prog_11_method_5_code 49 = .ok (.iload_n 1, 1) := by decide +kernel
theorem d_Unpacker_takePlain_50 : decode prog_11_method_5_code 50 = .ok (.iload_n 3, 1) := by decide +kernel
theorem d_Unpacker_takePlain_51 : decode prog_11_method_5_code 51 = .ok (.ixor, 1) := by decide +kernel
theorem d_Unpacker_takePlain_52 : decode prog_11_method_5_code 52 = .ok (.ldc 110, 2) := by decide +kernel
theorem d_Unpacker_takePlain_54 : decode prog_11_method_5_code 54 = .ok (.if_icmp .eq 21, 3) := by decide +kernel
theorem d_Unpacker_takePlain_57 : decode prog_11_method_5_code 57 = .ok (.aload_n 0, 1) := by decide +kernel
theorem d_Unpacker_takePlain_58 : decode prog_11_method_5_code 58 = .ok (.getfield 40, 3) := by decide +kernel
theorem d_Unpacker_takePlain_61 : decode prog_11_method_5_code 61 = .ok (.bipush 23, 2) := by decide +kernel
theorem d_Unpacker_takePlain_63 : decode prog_11_method_5_code 63 = .ok (.aload_n 0, 1) := by decide +kernel
theorem d_Unpacker_takePlain_64 : decode prog_11_method_5_code 64 = .ok (.getfield 36, 3) := by decide +kernel
theorem d_Unpacker_takePlain_67 : decode prog_11_method_5_code 67 = .ok (.iload_n 2, 1) := by decide +kernel
theorem d_Unpacker_takePlain_68 : decode prog_11_method_5_code 68 = .ok (.invokevirtual 82, 3) := by decide +kernel
theorem d_Unpacker_takePlain_71 : decode prog_11_method_5_code 71 = .ok (.invokevirtual 85, 3) := by decide +kernel
theorem d_Unpacker_takePlain_74 : decode prog_11_method_5_code 74 = .ok (.ireturn, 1) := by decide +kernel
theorem d_Unpacker_takePlain_75 : decode prog_11_method_5_code 75 = .ok (.iconst 0, 1) := by decide +kernel
theorem d_Unpacker_takePlain_76 : decode prog_11_method_5_code 76 = .ok (.istore 4, 2) := by decide +kernel
theorem d_Unpacker_takePlain_78 : decode prog_11_method_5_code 78 = .ok (.iload 4, 2) := by decide +kernel
theorem d_Unpacker_takePlain_80 : decode prog_11_method_5_code 80 = .ok (.iload_n 1, 1) := by decide +kernel
theorem d_Unpacker_takePlain_81 : decode prog_11_method_5_code 81 = .ok (.if_icmp .ge 46, 3) := by decide +kernel
theorem d_Unpacker_takePlain_84 : decode prog_11_method_5_code 84 = .ok (.aload_n 0, 1) := by decide +kernel
theorem d_Unpacker_takePlain_85 : decode prog_11_method_5_code 85 = .ok (.getfield 36, 3) := by decide +kernel
theorem d_Unpacker_takePlain_88 : decode prog_11_method_5_code 88 = .ok (.getfield 94, 3) := by decide +kernel
theorem d_Unpacker_takePlain_91 : decode prog_11_method_5_code 91 = .ok (.istore_n 2, 1) := by decide +kernel
theorem d_Unpacker_takePlain_92 : decode prog_11_method_5_code 92 = .ok (.aload_n 0, 1) := by decide +kernel
theorem d_Unpacker_takePlain_93 : decode prog_11_method_5_code 93 = .ok (.getfield 36, 3) := by decide +kernel
theorem d_Unpacker_takePlain_96 : decode prog_11_method_5_code 96 = .ok (.bipush 8, 2) := by decide +kernel
theorem d_Unpacker_takePlain_98 : decode prog_11_method_5_code 98 = .ok (.invokevirtual 70, 3) := by decide +kernel
theorem d_Unpacker_takePlain_101 : decode prog_11_method_5_code 101 = .ok (.istore 5, 2) := by decide +kernel
theorem d_Unpacker_takePlain_103 : decode prog_11_method_5_code 103 = .ok (.iload 5, 2) := by decide +kernel
theorem d_Unpacker_takePlain_105 : decode prog_11_method_5_code 105 = .ok (.iconst (-1), 1) := by decide +kernel
theorem d_Unpacker_takePlain_106 : decode prog_11_method_5_code 106 = .ok (.if_icmp .eq 13, 3) := by decide +kernel
theorem d_Unpacker_takePlain_109 : decode prog_11_method_5_code 109 = .ok (.aload_n 0, 1) := by decide +kernel
theorem d_Unpacker_takePlain_110 : decode prog_11_method_5_code 110 = .ok (.iload 5, 2) := by decide +kernel
theorem d_Unpacker_takePlain_112 : decode prog_11_method_5_code 112 = .ok (.iload_n 2, 1) := by decide +kernel
theorem d_Unpacker_takePlain_113 : decode prog_11_method_5_code 113 = .ok (.invokevirtual 111, 3) := by decide +kernel
theorem d_Unpacker_takePlain_116 : decode prog_11_method_5_code 116 = .ok (.ifCond .ne 5, 3) := by decide +kernel
theorem d_Unpacker_takePlain_119 : decode prog_11_method_5_code 119 = .ok (.iconst 0, 1) := by decide +kernel
theorem d_Unpacker_takePlain_120 : decode prog_11_method_5_code 120 = .ok (.ireturn, 1) := by decide +kernel
theorem d_Unpacker_takePlain_121 : decode prog_11_method_5_code 121 = .ok (.iinc 4 1, 3) := by decide +kernel
theorem d_Unpacker_takePlain_124 : decode prog_11_method_5_code 124 = .ok (.goto (-46), 3) := by decide +kernel
theorem d_Unpacker_takePlain_127 : decode prog_11_method_5_code 127 = .ok (.iconst 1, 1) := by decide +kernel
theorem d_Unpacker_takePlain_128 : decode prog_11_method_5_code 128 = .ok (.ireturn, 1) := by decide +kernel
set_option maxRecDepth 100000 in
set_option maxHeartbeats 4000000 in
theorem c_Unpacker_takePlain {l0 : Launch} (hl : l0.stackTraces = false) (n : Nat) (ids : List Nat) {t : Nat} (ht : mm_ok ids t 1 6)  (σ : Mm) : kw_C l0 y_Unpacker_takePlain (Cond.code y_Unpacker_takePlain prog_11_method_5_code 6 (some .boolean) :: kw_Ts) rm_Unpacker_takePlain kw_oi ids [] [.ref t] σ (F_Unpacker_takePlain n t σ) := by
  refine kw_start (L0 := [some (.ref t), none, none, none, none, none]) hl (by decide +kernel) (Nat.le_of_ble_eq_true rfl) rfl (fun Γ ad C Ce => ?_)
  unfold F_Unpacker_takePlain
  refine kw_aload_n C d_Unpacker_takePlain_0 rfl ?_
  refine kw_getR C fi_Unpacker_36 rfl rfl ht d_Unpacker_takePlain_1 (fun o1 ho1 => ?_)
  refine kw_callVv (cl' := 0) (sl' := 0) (As := []) C (c_PackedBits_leaveByte hl n ids ho1  σ) mi_Unpacker_107 v_PackedBits_leaveByte ⟨_, _, rfl⟩ ho1 ⟨Nat.le_of_ble_eq_true rfl, Nat.le_of_ble_eq_true rfl⟩ (Nat.le_of_ble_eq_true rfl) ⟨Nat.le_of_ble_eq_true rfl, Nat.le_of_ble_eq_true rfl⟩ ⟨rfl, rfl⟩ rfl d_Unpacker_takePlain_4 (fun σ2 => ?_)
  refine kw_aload_n C d_Unpacker_takePlain_7 rfl ?_
  refine kw_getR C fi_Unpacker_36 rfl rfl ht d_Unpacker_takePlain_8 (fun o3 ho3 => ?_)
  refine kw_bipush (v := 16) C d_Unpacker_takePlain_11 (by decide) ?_
  refine kw_callVi (cl' := 0) (sl' := 0) (As := [.int 16]) C (c_PackedBits_number hl n ids ho3 16 σ2) mi_Unpacker_70 v_PackedBits_number ⟨_, _, rfl⟩ ho3 ⟨Nat.le_of_ble_eq_true rfl, Nat.le_of_ble_eq_true rfl⟩ (Nat.le_of_ble_eq_true rfl) ⟨Nat.le_of_ble_eq_true rfl, Nat.le_of_ble_eq_true rfl⟩ ⟨rfl, rfl⟩ rfl d_Unpacker_takePlain_13 (fun x4 σ5 => ?_)
  refine kw_istore_n (L' := [some (.ref t), some (.int x4), none, none, none, none]) C d_Unpacker_takePlain_16 (by decide) rfl ?_
  refine kw_iload_n C d_Unpacker_takePlain_17 rfl ?_
  refine kw_iconst (v := -1) C d_Unpacker_takePlain_18 (by decide) ?_
  refine kw_icmp_ne (tgt := 24) C d_Unpacker_takePlain_19 (by decide) ?_ ?_
  · refine kw_aload_n C d_Unpacker_takePlain_24 rfl ?_
    refine kw_getR C fi_Unpacker_36 rfl rfl ht d_Unpacker_takePlain_25 (fun o6 ho6 => ?_)
    refine kw_getI C fi_Unpacker_94 (Or.inl rfl) ho6 d_Unpacker_takePlain_28 ?_
    refine kw_leti (fun x7 => ?_)
    refine kw_istore_n (L' := [some (.ref t), some (.int x4), some (.int x7), none, none, none]) C d_Unpacker_takePlain_31 (by decide) rfl ?_
    refine kw_aload_n C d_Unpacker_takePlain_32 rfl ?_
    refine kw_getR C fi_Unpacker_36 rfl rfl ht d_Unpacker_takePlain_33 (fun o8 ho8 => ?_)
    refine kw_bipush (v := 16) C d_Unpacker_takePlain_36 (by decide) ?_
    refine kw_callVi (cl' := 0) (sl' := 0) (As := [.int 16]) C (c_PackedBits_number hl n ids ho8 16 σ5) mi_Unpacker_70 v_PackedBits_number ⟨_, _, rfl⟩ ho8 ⟨Nat.le_of_ble_eq_true rfl, Nat.le_of_ble_eq_true rfl⟩ (Nat.le_of_ble_eq_true rfl) ⟨Nat.le_of_ble_eq_true rfl, Nat.le_of_ble_eq_true rfl⟩ ⟨rfl, rfl⟩ rfl d_Unpacker_takePlain_38 (fun x9 σ10 => ?_)
    refine kw_istore_n (L' := [some (.ref t), some (.int x4), some (.int x7), some (.int x9), none, none]) C d_Unpacker_takePlain_41 (by decide) rfl ?_
    refine kw_iload_n C d_Unpacker_takePlain_42 rfl ?_
    refine kw_iconst (v := -1) C d_Unpacker_takePlain_43 (by decide) ?_
    refine kw_icmp_ne (tgt := 49) C d_Unpacker_takePlain_44 (by decide) ?_ ?_
    · refine kw_iload_n C d_Unpacker_takePlain_49 rfl ?_
      refine kw_iload_n C d_Unpacker_takePlain_50 rfl ?_
      refine kw_ixor C d_Unpacker_takePlain_51 ?_
      refine kw_ldc (v := 65535) C d_Unpacker_takePlain_52 k_Unpacker_110 ?_
      refine kw_icmp_eq (tgt := 75) C d_Unpacker_takePlain_54 (by decide) ?_ ?_
      · refine kw_iconst (v := 0) C d_Unpacker_takePlain_75 (by decide) ?_
        refine kw_istore (L' := [some (.ref t), some (.int x4), some (.int x7), some (.int x9), some (.int 0), none]) C d_Unpacker_takePlain_76 (by decide) rfl ?_
        refine kw_wk (kw_l (α := Int32) (pc := 78) (Lj := fun x12 => [some (.ref t), some (.int x4), none, none, some (.int x12), none]) (stj := fun x12 => []) (fun k11 hk11 x12 σ13 => ?_) n 0 σ10) ⟨Or.inr rfl, Or.inr rfl, Or.inl rfl, Or.inl rfl, Or.inr rfl, Or.inl rfl, trivial⟩
        refine kw_iload C d_Unpacker_takePlain_78 rfl ?_
        refine kw_iload_n C d_Unpacker_takePlain_80 rfl ?_
        refine kw_icmp_ge (tgt := 127) C d_Unpacker_takePlain_81 (by decide) ?_ ?_
        · refine kw_iconst (v := 1) C d_Unpacker_takePlain_127 (by decide) ?_
          exact kw_zret C Ce rfl (by simp) (fun _ _ => rfl) (Nat.le_of_ble_eq_true rfl) (Nat.le_of_ble_eq_true rfl) rfl d_Unpacker_takePlain_128
        · refine kw_aload_n C d_Unpacker_takePlain_84 rfl ?_
          refine kw_getR C fi_Unpacker_36 rfl rfl ht d_Unpacker_takePlain_85 (fun o14 ho14 => ?_)
          refine kw_getI C fi_Unpacker_94 (Or.inl rfl) ho14 d_Unpacker_takePlain_88 ?_
          refine kw_leti (fun x15 => ?_)
          refine kw_istore_n (L' := [some (.ref t), some (.int x4), some (.int x15), none, some (.int x12), none]) C d_Unpacker_takePlain_91 (by decide) rfl ?_
          refine kw_aload_n C d_Unpacker_takePlain_92 rfl ?_
          refine kw_getR C fi_Unpacker_36 rfl rfl ht d_Unpacker_takePlain_93 (fun o16 ho16 => ?_)
          refine kw_bipush (v := 8) C d_Unpacker_takePlain_96 (by decide) ?_
          refine kw_callVi (cl' := 0) (sl' := 0) (As := [.int 8]) C (c_PackedBits_number hl n ids ho16 8 σ13) mi_Unpacker_70 v_PackedBits_number ⟨_, _, rfl⟩ ho16 ⟨Nat.le_of_ble_eq_true rfl, Nat.le_of_ble_eq_true rfl⟩ (Nat.le_of_ble_eq_true rfl) ⟨Nat.le_of_ble_eq_true rfl, Nat.le_of_ble_eq_true rfl⟩ ⟨rfl, rfl⟩ rfl d_Unpacker_takePlain_98 (fun x17 σ18 => ?_)
          refine kw_istore (L' := [some (.ref t), some (.int x4), some (.int x15), none, some (.int x12), some (.int x17)]) C d_Unpacker_takePlain_101 (by decide) rfl ?_
          refine kw_iload C d_Unpacker_takePlain_103 rfl ?_
          refine kw_iconst (v := -1) C d_Unpacker_takePlain_105 (by decide) ?_
          refine kw_j (α := Unit) (pcj := 119) (Lj := fun x20 => [none, none, none, none, none, none]) (stj := fun x20 => []) (fun x20 σ21 => ?_) (fun k19 hk19 => ?_)
          · refine kw_iconst (v := 0) C d_Unpacker_takePlain_119 (by decide) ?_
            exact kw_zret C Ce rfl (by simp) (fun _ _ => rfl) (Nat.le_of_ble_eq_true rfl) (Nat.le_of_ble_eq_true rfl) rfl d_Unpacker_takePlain_120
          · refine kw_icmp_eq (tgt := 119) C d_Unpacker_takePlain_106 (by decide) ?_ ?_
            · exact kw_wk (hk19 () σ18) ⟨Or.inl rfl, Or.inl rfl, Or.inl rfl, Or.inl rfl, Or.inl rfl, Or.inl rfl, trivial⟩
            · refine kw_aload_n C d_Unpacker_takePlain_109 rfl ?_
              refine kw_iload C d_Unpacker_takePlain_110 rfl ?_
              refine kw_iload_n C d_Unpacker_takePlain_112 rfl ?_
              refine kw_callVi (cl' := 0) (sl' := 0) (As := [.int x17, .int x15]) C (c_Unpacker_putByte hl n ids ht x17 x15 σ18) mi_Unpacker_111 v_Unpacker_putByte ⟨_, _, rfl⟩ ht ⟨Nat.le_of_ble_eq_true rfl, Nat.le_of_ble_eq_true rfl⟩ (Nat.le_of_ble_eq_true rfl) ⟨Nat.le_of_ble_eq_true rfl, Nat.le_of_ble_eq_true rfl⟩ ⟨rfl, rfl⟩ rfl d_Unpacker_takePlain_113 (fun x22 σ23 => ?_)
              refine kw_if_ne (tgt := 121) C d_Unpacker_takePlain_116 (by decide) ?_ ?_
              · refine kw_iincL (L2 := fun x24 => [some (.ref t), some (.int x4), some (.int x15), none, some (.int x24), some (.int x17)]) C d_Unpacker_takePlain_121 (by decide) rfl (fun _ => rfl) (fun x24 => ?_)
                refine kw_goto (tgt := 78) C d_Unpacker_takePlain_124 (by decide) ?_
                exact kw_wk (hk11 x24 σ23) ⟨Or.inr rfl, Or.inr rfl, Or.inl rfl, Or.inl rfl, Or.inr rfl, Or.inl rfl, trivial⟩
              · exact kw_wk (hk19 () σ23) ⟨Or.inl rfl, Or.inl rfl, Or.inl rfl, Or.inl rfl, Or.inl rfl, Or.inl rfl, trivial⟩
      · refine kw_aload_n C d_Unpacker_takePlain_57 rfl ?_
        refine kw_getR C fi_Unpacker_40 rfl rfl ht d_Unpacker_takePlain_58 (fun o25 ho25 => ?_)
        refine kw_bipush (v := 23) C d_Unpacker_takePlain_61 (by decide) ?_
        refine kw_aload_n C d_Unpacker_takePlain_63 rfl ?_
        refine kw_getR C fi_Unpacker_36 rfl rfl ht d_Unpacker_takePlain_64 (fun o26 ho26 => ?_)
        refine kw_iload_n C d_Unpacker_takePlain_67 rfl ?_
        refine kw_callVi (cl' := 0) (sl' := 0) (As := [.int x7]) C (c_PackedBits_placeOf hl n ids ho26 x7 σ10) mi_Unpacker_82 v_PackedBits_placeOf ⟨_, _, rfl⟩ ho26 ⟨Nat.le_of_ble_eq_true rfl, Nat.le_of_ble_eq_true rfl⟩ (Nat.le_of_ble_eq_true rfl) ⟨Nat.le_of_ble_eq_true rfl, Nat.le_of_ble_eq_true rfl⟩ ⟨rfl, rfl⟩ rfl d_Unpacker_takePlain_68 (fun x27 σ28 => ?_)
        refine kw_callVi (cl' := 0) (sl' := 0) (As := [.int 23, .int x27]) C (c_Fault_refuse hl n ids ho25 23 x27 σ28) mi_Unpacker_85 v_Fault_refuse ⟨_, _, rfl⟩ ho25 ⟨Nat.le_of_ble_eq_true rfl, Nat.le_of_ble_eq_true rfl⟩ (Nat.le_of_ble_eq_true rfl) ⟨Nat.le_of_ble_eq_true rfl, Nat.le_of_ble_eq_true rfl⟩ ⟨rfl, rfl⟩ rfl d_Unpacker_takePlain_71 (fun x29 σ30 => ?_)
        exact kw_zret C Ce rfl (by simp) (fun _ _ => rfl) (Nat.le_of_ble_eq_true rfl) (Nat.le_of_ble_eq_true rfl) rfl d_Unpacker_takePlain_74
    · refine kw_iconst (v := 0) C d_Unpacker_takePlain_47 (by decide) ?_
      exact kw_zret C Ce rfl (by simp) (fun _ _ => rfl) (Nat.le_of_ble_eq_true rfl) (Nat.le_of_ble_eq_true rfl) rfl d_Unpacker_takePlain_48
  · refine kw_iconst (v := 0) C d_Unpacker_takePlain_22 (by decide) ?_
    exact kw_zret C Ce rfl (by simp) (fun _ _ => rfl) (Nat.le_of_ble_eq_true rfl) (Nat.le_of_ble_eq_true rfl) rfl d_Unpacker_takePlain_23
/-! PackedBits_meaning -/
def rm_PackedBits_meaning : Room := { frames := 1, cells := 0, slots := 0, locals := 23 }
def F_PackedBits_meaning (n : Nat) (t : Nat) (r0 : Nat) (σ : Mm) : Option (Int32 × Mm) :=
kf_let (gS σ (64 * t + 5) : Int32) fun x1 =>
kf_l (α := Int32 × Int32 × Int32 × Int32) n (fun k2 x3 σ4 =>
if (gS σ4 (64 * r0 + 4)) < x3.2.2.2 then (
Option.bind (gR σ4 (64 * t + 1)) fun o5 =>
kf_c2 (F_PackedBits_placeOf n t x1 σ4) fun x6 σ7 =>
kf_c2 (F_Fault_refuse n o5 25 x6 σ7) fun x8 σ9 =>
some (-1, σ9)) else (
kf_c2 (F_PackedBits_number n t 1 σ4) fun x10 σ11 =>
if x10 = (-1) then (
some (-1, σ11)) else (
kf_let ((x3.1 <<< (1 &&& 31)) ||| x10 : Int32) fun x12 =>
kf_let (x3.2.1 <<< (1 &&& 31) : Int32) fun x13 =>
Option.bind (gR σ11 (64 * r0 + 0)) fun o14 =>
kf_in x3.2.2.2 (mm_kd o14).2.2 <|
kf_let (gB σ11 o14 x3.2.2.2.toNatClampNeg : Int32) fun x15 =>
if x15 ≤ (x12 - x13) then (
kf_let (x13 + x15 : Int32) fun x16 =>
kf_let (x3.2.2.1 + x15 : Int32) fun x17 =>
kf_let (x3.2.2.2 + Int32.ofInt 1) fun x18 =>
k2 (x12, x16, x17, x18) σ11) else (
Option.bind (gR σ11 (64 * r0 + 1)) fun o19 =>
kf_let ((x3.2.2.1 + x12) - x13 : Int32) fun x20 =>
kf_in x20 (mm_kd o19).2.2 <|
some (gB σ11 o19 x20.toNatClampNeg, σ11))))) (0, 0, 0, 1) σ
theorem d_PackedBits_meaning_0 : decode prog_5_method_7_code 0 = .ok (.aload_n 0, 1) := by decide +kernel
theorem d_PackedBits_meaning_1 : decode prog_5_method_7_code 1 = .ok (.getfield 33, 3) := by decide +kernel
theorem d_PackedBits_meaning_4 : decode prog_5_method_7_code 4 = .ok (.istore_n 2, 1) := by decide +kernel
theorem d_PackedBits_meaning_5 : decode prog_5_method_7_code 5 = .ok (.iconst 0, 1) := by decide +kernel
theorem d_PackedBits_meaning_6 : decode prog_5_method_7_code 6 = .ok (.istore_n 3, 1) := by decide +kernel
theorem d_PackedBits_meaning_7 : decode prog_5_method_7_code 7 = .ok (.iconst 0, 1) := by decide +kernel
theorem d_PackedBits_meaning_8 : decode prog_5_method_7_code 8 = .ok (.istore 4, 2) := by decide +kernel
theorem d_PackedBits_meaning_10 : decode prog_5_method_7_code 10 = .ok (.iconst 0, 1) := by decide +kernel
theorem d_PackedBits_meaning_11 : decode prog_5_method_7_code 11 = .ok (.istore 5, 2) := by decide +kernel
theorem d_PackedBits_meaning_13 : decode prog_5_method_7_code 13 = .ok (.iconst 1, 1) := by decide +kernel
theorem d_PackedBits_meaning_14 : decode prog_5_method_7_code 14 = .ok (.istore 6, 2) := by decide +kernel
theorem d_PackedBits_meaning_16 : decode prog_5_method_7_code 16 = .ok (.iload 6, 2) := by decide +kernel
theorem d_PackedBits_meaning_18 : decode prog_5_method_7_code 18 = .ok (.aload_n 1, 1) := by decide +kernel
theorem d_PackedBits_meaning_19 : decode prog_5_method_7_code 19 = .ok (.getfield 47, 3) := by decide +kernel
theorem d_PackedBits_meaning_22 : decode prog_5_method_7_code 22 = .ok (.if_icmp .gt 82, 3) := by decide +kernel
theorem d_PackedBits_meaning_25 : decode prog_5_method_7_code 25 = .ok (.aload_n 0, 1) := by decide +kernel
theorem d_PackedBits_meaning_26 : decode prog_5_method_7_code 26 = .ok (.iconst 1, 1) := by decide +kernel
theorem d_PackedBits_meaning_27 : decode prog_5_method_7_code 27 = .ok (.invokevirtual 52, 3) := by decide +kernel
theorem d_PackedBits_meaning_30 : decode prog_5_method_7_code 30 = .ok (.istore 7, 2) := by decide +kernel
theorem d_PackedBits_meaning_32 : decode prog_5_method_7_code 32 = .ok (.iload 7, 2) := by decide +kernel
theorem d_PackedBits_meaning_34 : decode prog_5_method_7_code 34 = .ok (.iconst (-1), 1) := by decide +kernel
theorem d_PackedBits_meaning_35 : decode prog_5_method_7_code 35 = .ok (.if_icmp .ne 5, 3) := by decide +kernel
theorem d_PackedBits_meaning_38 : decode prog_5_method_7_code 38 = .ok (.iconst (-1), 1) := by decide +kernel
theorem d_PackedBits_meaning_39 : decode prog_5_method_7_code 39 = .ok (.ireturn, 1) := by decide +kernel
theorem d_PackedBits_meaning_40 : decode prog_5_method_7_code 40 = .ok (.iload_n 3, 1) := by decide +kernel
theorem d_PackedBits_meaning_41 : decode prog_5_method_7_code 41 = .ok (.iconst 1, 1) := by decide +kernel
theorem d_PackedBits_meaning_42 : decode prog_5_method_7_code 42 = .ok (.ishl, 1) := by decide +kernel
theorem d_PackedBits_meaning_43 : decode prog_5_method_7_code 43 = .ok (.iload 7, 2) := by decide +kernel
theorem d_PackedBits_meaning_45 : decode prog_5_method_7_code 45 = .ok (.ior, 1) := by decide +kernel
theorem d_PackedBits_meaning_46 : decode prog_5_method_7_code 46 = .ok (.istore_n 3, 1) := by decide +kernel
theorem d_PackedBits_meaning_47 : decode prog_5_method_7_code 47 = .ok (.iload 4, 2) := by decide +kernel
theorem d_PackedBits_meaning_49 : decode prog_5_method_7_code 49 = .ok (.iconst 1, 1) := by decide +kernel
theorem d_PackedBits_meaning_50 : decode prog_5_method_7_code 50 = .ok (.ishl, 1) := by decide +kernel
theorem d_PackedBits_meaning_51 : decode prog_5_method_7_code 51 = .ok (.istore 4, 2) := by decide +kernel
theorem d_PackedBits_meaning_53 : decode prog_5_method_7_code 53 = .ok (.aload_n 1, 1) := by decide +kernel
theorem d_PackedBits_meaning_54 : decode prog_5_method_7_code 54 = .ok (.getfield 56, 3) := by decide +kernel
theorem d_PackedBits_meaning_57 : decode prog_5_method_7_code 57 = .ok (.iload 6, 2) := by decide +kernel
theorem d_PackedBits_meaning_59 : decode prog_5_method_7_code 59 = .ok (.iaload, 1) := by decide +kernel
theorem d_PackedBits_meaning_60 : decode prog_5_method_7_code 60 = .ok (.istore 8, 2) := by decide +kernel
theorem d_PackedBits_meaning_62 : decode prog_5_method_7_code 62 = .ok (.iload_n 3, 1) := by decide +kernel
theorem d_PackedBits_meaning_63 : decode prog_5_method_7_code 63 = .ok (.iload 4, 2) := by decide +kernel
theorem d_PackedBits_meaning_65 : decode prog_5_method_7_code 65 = .ok (.isub, 1) := by decide +kernel
theorem d_PackedBits_meaning_66 : decode prog_5_method_7_code 66 = .ok (.iload 8, 2) := by decide +kernel
theorem d_PackedBits_meaning_68 : decode prog_5_method_7_code 68 = .ok (.if_icmp .ge 16, 3) := by decide +kernel
theorem d_PackedBits_meaning_71 : decode prog_5_method_7_code 71 = .ok (.aload_n 1, 1) := by decide +kernel
theorem d_PackedBits_meaning_72 : decode prog_5_method_7_code 72 = .ok (.getfield 59, 3) := by decide +kernel
theorem d_PackedBits_meaning_75 : decode prog_5_method_7_code 75 = .ok (.iload 5, 2) := by decide +kernel
theorem d_PackedBits_meaning_77 : decode prog_5_method_7_code 77 = .ok (.iload_n 3, 1) := by decide +kernel
theorem d_PackedBits_meaning_78 : decode prog_5_method_7_code 78 = .ok (.iadd, 1) := by decide +kernel
theorem d_PackedBits_meaning_79 : decode prog_5_method_7_code 79 = .ok (.iload 4, 2) := by decide +kernel
theorem d_PackedBits_meaning_81 : decode prog_5_method_7_code 81 = .ok (.isub, 1) := by decide +kernel
theorem d_PackedBits_meaning_82 : decode prog_5_method_7_code 82 = .ok (.iaload, 1) := by decide +kernel
theorem d_PackedBits_meaning_83 : decode prog_5_method_7_code 83 = .ok (.ireturn, 1) := by decide +kernel
theorem d_PackedBits_meaning_84 : decode prog_5_method_7_code 84 = .ok (.iload 4, 2) := by decide +kernel
theorem d_PackedBits_meaning_86 : decode prog_5_method_7_code 86 = .ok (.iload 8, 2) := by decide +kernel
theorem d_PackedBits_meaning_88 : decode prog_5_method_7_code 88 = .ok (.iadd, 1) := by decide +kernel
theorem d_PackedBits_meaning_89 : decode prog_5_method_7_code 89 = .ok (.istore 4, 2) := by decide +kernel
theorem d_PackedBits_meaning_91 : decode prog_5_method_7_code 91 = .ok (.iload 5, 2) := by decide +kernel
theorem d_PackedBits_meaning_93 : decode prog_5_method_7_code 93 = .ok (.iload 8, 2) := by decide +kernel
theorem d_PackedBits_meaning_95 : decode prog_5_method_7_code 95 = .ok (.iadd, 1) := by decide +kernel
theorem d_PackedBits_meaning_96 : decode prog_5_method_7_code 96 = .ok (.istore 5, 2) := by decide +kernel
theorem d_PackedBits_meaning_98 : decode prog_5_method_7_code 98 = .ok (.iinc 6 1, 3) := by decide +kernel
theorem d_PackedBits_meaning_101 : decode prog_5_method_7_code 101 = .ok (.goto (-85), 3) := by decide +kernel
theorem d_PackedBits_meaning_104 : decode prog_5_method_7_code 104 = .ok (.aload_n 0, 1) := by decide +kernel
theorem d_PackedBits_meaning_105 : decode prog_5_method_7_code 105 = .ok (.getfield 22, 3) := by decide +kernel
theorem d_PackedBits_meaning_108 : decode prog_5_method_7_code 108 = .ok (.bipush 25, 2) := by decide +kernel
theorem d_PackedBits_meaning_110 : decode prog_5_method_7_code 110 = .ok (.aload_n 0, 1) := by decide +kernel
theorem d_PackedBits_meaning_111 : decode prog_5_method_7_code 111 = .ok (.iload_n 2, 1) := by decide +kernel
theorem d_PackedBits_meaning_112 : decode prog_5_method_7_code 112 = .ok (.invokevirtual 62, 3) := by decide +kernel
theorem d_PackedBits_meaning_115 : decode prog_5_method_7_code 115 = .ok (.invokevirtual 65, 3) := by decide +kernel
theorem d_PackedBits_meaning_118 : decode prog_5_method_7_code 118 = .ok (.pop, 1) := by decide +kernel
theorem d_PackedBits_meaning_119 : decode prog_5_method_7_code 119 = .ok (.iconst (-1), 1) := by decide +kernel
theorem d_PackedBits_meaning_120 : decode prog_5_method_7_code 120 = .ok (.ireturn, 1) := by decide +kernel
set_option maxRecDepth 100000 in
set_option maxHeartbeats 4000000 in
theorem c_PackedBits_meaning {l0 : Launch} (hl : l0.stackTraces = false) (n : Nat) (ids : List Nat) {t : Nat} (ht : mm_ok ids t 1 4) {r0 : Nat} (hr0 : mm_ok ids r0 1 7)  (σ : Mm) : kw_C l0 y_PackedBits_meaning (Cond.code y_PackedBits_meaning prog_5_method_7_code 9 (some .int) :: kw_Ts) rm_PackedBits_meaning kw_oi ids [] [.ref t, .ref r0] σ (F_PackedBits_meaning n t r0 σ) := by
  refine kw_start (L0 := [some (.ref t), some (.ref r0), none, none, none, none, none, none, none]) hl (by decide +kernel) (Nat.le_of_ble_eq_true rfl) rfl (fun Γ ad C Ce => ?_)
  unfold F_PackedBits_meaning
  refine kw_aload_n C d_PackedBits_meaning_0 rfl ?_
  refine kw_getI C fi_PackedBits_33 (Or.inl rfl) ht d_PackedBits_meaning_1 ?_
  refine kw_leti (fun x1 => ?_)
  refine kw_istore_n (L' := [some (.ref t), some (.ref r0), some (.int x1), none, none, none, none, none, none]) C d_PackedBits_meaning_4 (by decide) rfl ?_
  refine kw_iconst (v := 0) C d_PackedBits_meaning_5 (by decide) ?_
  refine kw_istore_n (L' := [some (.ref t), some (.ref r0), some (.int x1), some (.int 0), none, none, none, none, none]) C d_PackedBits_meaning_6 (by decide) rfl ?_
  refine kw_iconst (v := 0) C d_PackedBits_meaning_7 (by decide) ?_
  refine kw_istore (L' := [some (.ref t), some (.ref r0), some (.int x1), some (.int 0), some (.int 0), none, none, none, none]) C d_PackedBits_meaning_8 (by decide) rfl ?_
  refine kw_iconst (v := 0) C d_PackedBits_meaning_10 (by decide) ?_
  refine kw_istore (L' := [some (.ref t), some (.ref r0), some (.int x1), some (.int 0), some (.int 0), some (.int 0), none, none, none]) C d_PackedBits_meaning_11 (by decide) rfl ?_
  refine kw_iconst (v := 1) C d_PackedBits_meaning_13 (by decide) ?_
  refine kw_istore (L' := [some (.ref t), some (.ref r0), some (.int x1), some (.int 0), some (.int 0), some (.int 0), some (.int 1), none, none]) C d_PackedBits_meaning_14 (by decide) rfl ?_
  refine kw_wk (kw_l (α := Int32 × Int32 × Int32 × Int32) (pc := 16) (Lj := fun x3 => [some (.ref t), some (.ref r0), some (.int x1), some (.int x3.1), some (.int x3.2.1), some (.int x3.2.2.1), some (.int x3.2.2.2), none, none]) (stj := fun x3 => []) (fun k2 hk2 x3 σ4 => ?_) n (0, 0, 0, 1) σ) ⟨Or.inr rfl, Or.inr rfl, Or.inr rfl, Or.inr rfl, Or.inr rfl, Or.inr rfl, Or.inr rfl, Or.inl rfl, Or.inl rfl, trivial⟩
  refine kw_iload C d_PackedBits_meaning_16 rfl ?_
  refine kw_aload_n C d_PackedBits_meaning_18 rfl ?_
  refine kw_getI C fi_PackedBits_47 (Or.inl rfl) hr0 d_PackedBits_meaning_19 ?_
  refine kw_icmp_gt (tgt := 104) C d_PackedBits_meaning_22 (by decide) ?_ ?_
  · refine kw_aload_n C d_PackedBits_meaning_104 rfl ?_
    refine kw_getR C fi_PackedBits_22 rfl rfl ht d_PackedBits_meaning_105 (fun o5 ho5 => ?_)
    refine kw_bipush (v := 25) C d_PackedBits_meaning_108 (by decide) ?_
    refine kw_aload_n C d_PackedBits_meaning_110 rfl ?_
    refine kw_iload_n C d_PackedBits_meaning_111 rfl ?_
    refine kw_callVi (cl' := 0) (sl' := 0) (As := [.int x1]) C (c_PackedBits_placeOf hl n ids ht x1 σ4) mi_PackedBits_62 v_PackedBits_placeOf ⟨_, _, rfl⟩ ht ⟨Nat.le_of_ble_eq_true rfl, Nat.le_of_ble_eq_true rfl⟩ (Nat.le_of_ble_eq_true rfl) ⟨Nat.le_of_ble_eq_true rfl, Nat.le_of_ble_eq_true rfl⟩ ⟨rfl, rfl⟩ rfl d_PackedBits_meaning_112 (fun x6 σ7 => ?_)
    refine kw_callVi (cl' := 0) (sl' := 0) (As := [.int 25, .int x6]) C (c_Fault_refuse hl n ids ho5 25 x6 σ7) mi_PackedBits_65 v_Fault_refuse ⟨_, _, rfl⟩ ho5 ⟨Nat.le_of_ble_eq_true rfl, Nat.le_of_ble_eq_true rfl⟩ (Nat.le_of_ble_eq_true rfl) ⟨Nat.le_of_ble_eq_true rfl, Nat.le_of_ble_eq_true rfl⟩ ⟨rfl, rfl⟩ rfl d_PackedBits_meaning_115 (fun x8 σ9 => ?_)
    refine kw_pop C d_PackedBits_meaning_118 rfl ?_
    refine kw_iconst (v := -1) C d_PackedBits_meaning_119 (by decide) ?_
    exact kw_iret C Ce rfl (by simp) (fun _ _ => rfl) (Nat.le_of_ble_eq_true rfl) (Nat.le_of_ble_eq_true rfl) rfl d_PackedBits_meaning_120
  · refine kw_aload_n C d_PackedBits_meaning_25 rfl ?_
    refine kw_iconst (v := 1) C d_PackedBits_meaning_26 (by decide) ?_
    refine kw_callVi (cl' := 0) (sl' := 0) (As := [.int 1]) C (c_PackedBits_number hl n ids ht 1 σ4) mi_PackedBits_52 v_PackedBits_number ⟨_, _, rfl⟩ ht ⟨Nat.le_of_ble_eq_true rfl, Nat.le_of_ble_eq_true rfl⟩ (Nat.le_of_ble_eq_true rfl) ⟨Nat.le_of_ble_eq_true rfl, Nat.le_of_ble_eq_true rfl⟩ ⟨rfl, rfl⟩ rfl d_PackedBits_meaning_27 (fun x10 σ11 => ?_)
    refine kw_istore (L' := [some (.ref t), some (.ref r0), some (.int x1), some (.int x3.1), some (.int x3.2.1), some (.int x3.2.2.1), some (.int x3.2.2.2), some (.int x10), none]) C d_PackedBits_meaning_30 (by decide) rfl ?_
    refine kw_iload C d_PackedBits_meaning_32 rfl ?_
    refine kw_iconst (v := -1) C d_PackedBits_meaning_34 (by decide) ?_
    refine kw_icmp_ne (tgt := 40) C d_PackedBits_meaning_35 (by decide) ?_ ?_
    · refine kw_iload_n C d_PackedBits_meaning_40 rfl ?_
      refine kw_iconst (v := 1) C d_PackedBits_meaning_41 (by decide) ?_
      refine kw_ishl C d_PackedBits_meaning_42 ?_
      refine kw_iload C d_PackedBits_meaning_43 rfl ?_
      refine kw_ior C d_PackedBits_meaning_45 ?_
      refine kw_leti (fun x12 => ?_)
      refine kw_istore_n (L' := [some (.ref t), some (.ref r0), some (.int x1), some (.int x12), some (.int x3.2.1), some (.int x3.2.2.1), some (.int x3.2.2.2), some (.int x10), none]) C d_PackedBits_meaning_46 (by decide) rfl ?_
      refine kw_iload C d_PackedBits_meaning_47 rfl ?_
      refine kw_iconst (v := 1) C d_PackedBits_meaning_49 (by decide) ?_
      refine kw_ishl C d_PackedBits_meaning_50 ?_
      refine kw_leti (fun x13 => ?_)
      refine kw_istore (L' := [some (.ref t), some (.ref r0), some (.int x1), some (.int x12), some (.int x13), some (.int x3.2.2.1), some (.int x3.2.2.2), some (.int x10), none]) C d_PackedBits_meaning_51 (by decide) rfl ?_
      refine kw_aload_n C d_PackedBits_meaning_53 rfl ?_
      refine kw_getR C fi_PackedBits_56 rfl rfl hr0 d_PackedBits_meaning_54 (fun o14 ho14 => ?_)
      refine kw_iload C d_PackedBits_meaning_57 rfl ?_
      refine kw_iald C (Or.inl ⟨ho14.1, ho14.2.1⟩) d_PackedBits_meaning_59 ?_
      refine kw_leti (fun x15 => ?_)
      refine kw_istore (L' := [some (.ref t), some (.ref r0), some (.int x1), some (.int x12), some (.int x13), some (.int x3.2.2.1), some (.int x3.2.2.2), some (.int x10), some (.int x15)]) C d_PackedBits_meaning_60 (by decide) rfl ?_
      refine kw_iload_n C d_PackedBits_meaning_62 rfl ?_
      refine kw_iload C d_PackedBits_meaning_63 rfl ?_
      refine kw_isub C d_PackedBits_meaning_65 ?_
      refine kw_iload C d_PackedBits_meaning_66 rfl ?_
      refine kw_icmp_ge (tgt := 84) C d_PackedBits_meaning_68 (by decide) ?_ ?_
      · refine kw_iload C d_PackedBits_meaning_84 rfl ?_
        refine kw_iload C d_PackedBits_meaning_86 rfl ?_
        refine kw_iadd C d_PackedBits_meaning_88 ?_
        refine kw_leti (fun x16 => ?_)
        refine kw_istore (L' := [some (.ref t), some (.ref r0), some (.int x1), some (.int x12), some (.int x16), some (.int x3.2.2.1), some (.int x3.2.2.2), some (.int x10), some (.int x15)]) C d_PackedBits_meaning_89 (by decide) rfl ?_
        refine kw_iload C d_PackedBits_meaning_91 rfl ?_
        refine kw_iload C d_PackedBits_meaning_93 rfl ?_
        refine kw_iadd C d_PackedBits_meaning_95 ?_
        refine kw_leti (fun x17 => ?_)
        refine kw_istore (L' := [some (.ref t), some (.ref r0), some (.int x1), some (.int x12), some (.int x16), some (.int x17), some (.int x3.2.2.2), some (.int x10), some (.int x15)]) C d_PackedBits_meaning_96 (by decide) rfl ?_
        refine kw_iincL (L2 := fun x18 => [some (.ref t), some (.ref r0), some (.int x1), some (.int x12), some (.int x16), some (.int x17), some (.int x18), some (.int x10), some (.int x15)]) C d_PackedBits_meaning_98 (by decide) rfl (fun _ => rfl) (fun x18 => ?_)
        refine kw_goto (tgt := 16) C d_PackedBits_meaning_101 (by decide) ?_
        exact kw_wk (hk2 (x12, x16, x17, x18) σ11) ⟨Or.inr rfl, Or.inr rfl, Or.inr rfl, Or.inr rfl, Or.inr rfl, Or.inr rfl, Or.inr rfl, Or.inl rfl, Or.inl rfl, trivial⟩
      · refine kw_aload_n C d_PackedBits_meaning_71 rfl ?_
        refine kw_getR C fi_PackedBits_59 rfl rfl hr0 d_PackedBits_meaning_72 (fun o19 ho19 => ?_)
        refine kw_iload C d_PackedBits_meaning_75 rfl ?_
        refine kw_iload_n C d_PackedBits_meaning_77 rfl ?_
        refine kw_iadd C d_PackedBits_meaning_78 ?_
        refine kw_iload C d_PackedBits_meaning_79 rfl ?_
        refine kw_isub C d_PackedBits_meaning_81 ?_
        refine kw_leti (fun x20 => ?_)
        refine kw_iald C (Or.inl ⟨ho19.1, ho19.2.1⟩) d_PackedBits_meaning_82 ?_
        exact kw_iret C Ce rfl (by simp) (fun _ _ => rfl) (Nat.le_of_ble_eq_true rfl) (Nat.le_of_ble_eq_true rfl) rfl d_PackedBits_meaning_83
    · refine kw_iconst (v := -1) C d_PackedBits_meaning_38 (by decide) ?_
      exact kw_iret C Ce rfl (by simp) (fun _ _ => rfl) (Nat.le_of_ble_eq_true rfl) (Nat.le_of_ble_eq_true rfl) rfl d_PackedBits_meaning_39
