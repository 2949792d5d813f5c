theorem mi_Md_254 : kw_mi "PictureFileModel" 254 y_Md_readSum prog_14_method_44_code 5 (some .boolean) 0 := ⟨(kw_m7 (i := 36) (by decide +kernel) (by decide +kernel)), w_Md_readSum, in_Md, by decide +kernel, by decide +kernel, by decide +kernel⟩
theorem v_Md_readSum : Cond.instanceMethod y_Md_readSum ∈ kw_Ts ∧ Cond.selects y_Md_readSum.cls y_Md_readSum y_Md_readSum ∈ kw_Ts := ⟨(kw_m7 (i := 38) (by decide +kernel) (by decide +kernel)), (kw_sel (i := 73) (by decide +kernel) (by decide +kernel))⟩
theorem mi_Md_250 : kw_mi "PictureFileModel" 250 y_Md_readBlock prog_14_method_47_code 5 (some .boolean) 1 := ⟨(kw_m6 (i := 213) (by decide +kernel) (by decide +kernel)), w_Md_readBlock, in_Md, by decide +kernel, by decide +kernel, by decide +kernel⟩
theorem v_Md_readBlock : Cond.instanceMethod y_Md_readBlock ∈ kw_Ts ∧ Cond.selects y_Md_readBlock.cls y_Md_readBlock y_Md_readBlock ∈ kw_Ts := ⟨(kw_m6 (i := 215) (by decide +kernel) (by decide +kernel)), (kw_sel (i := 62) (by decide +kernel) (by decide +kernel))⟩
theorem mi_Md_246 : kw_mi "PictureFileModel" 246 y_Md_readPlain prog_14_method_46_code 4 (some .boolean) 0 := ⟨(kw_m6 (i := 203) (by decide +kernel) (by decide +kernel)), w_Md_readPlain, in_Md, by decide +kernel, by decide +kernel, by decide +kernel⟩
theorem v_Md_readPlain : Cond.instanceMethod y_Md_readPlain ∈ kw_Ts ∧ Cond.selects y_Md_readPlain.cls y_Md_readPlain y_Md_readPlain ∈ kw_Ts := ⟨(kw_m6 (i := 205) (by decide +kernel) (by decide +kernel)), (kw_sel (i := 60) (by decide +kernel) (by decide +kernel))⟩
def y_Md_unpack : MethodName := ⟨"PictureFileModel", "unpack", "()Z"⟩
theorem w_Md_unpack : Cond.code y_Md_unpack prog_14_method_42_code 7 (some .boolean) ∈ kw_Ts := (kw_m6 (i := 189) (by decide +kernel) (by decide +kernel))
theorem mi_Md_314 : kw_mi "PictureFileModel" 314 y_Md_size prog_14_method_4_code 1 (some .int) 1 := ⟨(kw_m7 (i := 62) (by decide +kernel) (by decide +kernel)), w_Md_size, in_Md, by decide +kernel, by decide +kernel, by decide +kernel⟩
theorem s_Md_size : Cond.static y_Md_size ∈ kw_Ts := (kw_m7 (i := 63) (by decide +kernel) (by decide +kernel))
def y_Md_nearest : MethodName := ⟨"PictureFileModel", "nearest", "(III)I"⟩
theorem w_Md_nearest : Cond.code y_Md_nearest prog_14_method_57_code 7 (some .int) ∈ kw_Ts := (kw_m7 (i := 61) (by decide +kernel) (by decide +kernel))
def y_Md_byteOf : MethodName := ⟨"PictureFileModel", "byteOf", "(II)I"⟩
theorem w_Md_byteOf : Cond.code y_Md_byteOf prog_14_method_58_code 3 (some .int) ∈ kw_Ts := (kw_m7 (i := 58) (by decide +kernel) (by decide +kernel))
theorem fi_Md_317 : kw_fi "PictureFileModel" 317 12 52 false := ⟨mmR_12, mmT_12, 57, rfl, rfl, by decide, mmI_12, mmY_12, mmN_12, rfl, (kw_m5 (i := 195) (by decide +kernel) (by decide +kernel))⟩
theorem fi_Md_320 : kw_fi "PictureFileModel" 320 12 53 false := ⟨mmR_12, mmT_12, 57, rfl, rfl, by decide, mmI_12, mmY_12, mmN_12, rfl, (kw_m5 (i := 196) (by decide +kernel) (by decide +kernel))⟩
theorem mi_Md_323 : kw_mi "PictureFileModel" 323 y_Md_byteOf prog_14_method_58_code 3 (some .int) 2 := ⟨(kw_m7 (i := 55) (by decide +kernel) (by decide +kernel)), w_Md_byteOf, in_Md, by decide +kernel, by decide +kernel, by decide +kernel⟩
theorem v_Md_byteOf : Cond.instanceMethod y_Md_byteOf ∈ kw_Ts ∧ Cond.selects y_Md_byteOf.cls y_Md_byteOf y_Md_byteOf ∈ kw_Ts := ⟨(kw_m7 (i := 57) (by decide +kernel) (by decide +kernel)), (kw_sel (i := 77) (by decide +kernel) (by decide +kernel))⟩
theorem mi_Md_326 : kw_mi "PictureFileModel" 326 y_Md_nearest prog_14_method_57_code 7 (some .int) 3 := ⟨(kw_m7 (i := 59) (by decide +kernel) (by decide +kernel)), w_Md_nearest, in_Md, by decide +kernel, by decide +kernel, by decide +kernel⟩
theorem s_Md_nearest : Cond.static y_Md_nearest ∈ kw_Ts := (kw_m7 (i := 60) (by decide +kernel) (by decide +kernel))
def y_Md_guess : MethodName := ⟨"PictureFileModel", "guess", "(III)I"⟩
theorem w_Md_guess : Cond.code y_Md_guess prog_14_method_59_code 9 (some .int) ∈ kw_Ts := (kw_m7 (i := 54) (by decide +kernel) (by decide +kernel))
theorem mi_Md_329 : kw_mi "PictureFileModel" 329 y_Md_guess prog_14_method_59_code 9 (some .int) 3 := ⟨(kw_m7 (i := 51) (by decide +kernel) (by decide +kernel)), w_Md_guess, in_Md, by decide +kernel, by decide +kernel, by decide +kernel⟩
theorem v_Md_guess : Cond.instanceMethod y_Md_guess ∈ kw_Ts ∧ Cond.selects y_Md_guess.cls y_Md_guess y_Md_guess ∈ kw_Ts := ⟨(kw_m7 (i := 53) (by decide +kernel) (by decide +kernel)), (kw_sel (i := 76) (by decide +kernel) (by decide +kernel))⟩
def y_Md_isPlain : MethodName := ⟨"PictureFileModel", "isPlain", "()Z"⟩
theorem w_Md_isPlain : Cond.code y_Md_isPlain prog_14_method_60_code 4 (some .boolean) ∈ kw_Ts := (kw_m7 (i := 50) (by decide +kernel) (by decide +kernel))
def y_Md_sampleOf : MethodName := ⟨"PictureFileModel", "sampleOf", "(III)I"⟩
theorem w_Md_sampleOf : Cond.code y_Md_sampleOf prog_14_method_61_code 7 (some .int) ∈ kw_Ts := (kw_m7 (i := 72) (by decide +kernel) (by decide +kernel))
theorem fi_Md_354 : kw_fi "PictureFileModel" 354 12 5 false := ⟨mmR_12, mmT_12, 57, rfl, rfl, by decide, mmI_12, mmY_12, mmN_12, rfl, (kw_m5 (i := 148) (by decide +kernel) (by decide +kernel))⟩
theorem fi_Md_357 : kw_fi "PictureFileModel" 357 12 6 false := ⟨mmR_12, mmT_12, 57, rfl, rfl, by decide, mmI_12, mmY_12, mmN_12, rfl, (kw_m5 (i := 149) (by decide +kernel) (by decide +kernel))⟩
theorem fi_Md_360 : kw_fi "PictureFileModel" 360 12 7 false := ⟨mmR_12, mmT_12, 57, rfl, rfl, by decide, mmI_12, mmY_12, mmN_12, rfl, (kw_m5 (i := 150) (by decide +kernel) (by decide +kernel))⟩
theorem fi_Md_363 : kw_fi "PictureFileModel" 363 12 8 false := ⟨mmR_12, mmT_12, 57, rfl, rfl, by decide, mmI_12, mmY_12, mmN_12, rfl, (kw_m5 (i := 151) (by decide +kernel) (by decide +kernel))⟩
theorem fi_Md_366 : kw_fi "PictureFileModel" 366 12 9 false := ⟨mmR_12, mmT_12, 57, rfl, rfl, by decide, mmI_12, mmY_12, mmN_12, rfl, (kw_m5 (i := 152) (by decide +kernel) (by decide +kernel))⟩
theorem fi_Md_369 : kw_fi "PictureFileModel" 369 12 10 false := ⟨mmR_12, mmT_12, 57, rfl, rfl, by decide, mmI_12, mmY_12, mmN_12, rfl, (kw_m5 (i := 153) (by decide +kernel) (by decide +kernel))⟩
theorem fi_Md_372 : kw_fi "PictureFileModel" 372 12 13 false := ⟨mmR_12, mmT_12, 57, rfl, rfl, by decide, mmI_12, mmY_12, mmN_12, rfl, (kw_m5 (i := 156) (by decide +kernel) (by decide +kernel))⟩
theorem fi_Md_375 : kw_fi "PictureFileModel" 375 12 15 false := ⟨mmR_12, mmT_12, 57, rfl, rfl, by decide, mmI_12, mmY_12, mmN_12, rfl, (kw_m5 (i := 158) (by decide +kernel) (by decide +kernel))⟩
theorem fi_Md_21 : kw_fi "PictureFileModel" 21 12 14 true := ⟨mmR_12, mmT_12, 57, rfl, rfl, by decide, mmI_12, mmY_12, mmN_12, rfl, (kw_m5 (i := 157) (by decide +kernel) (by decide +kernel))⟩
theorem fi_Md_18 : kw_fi "PictureFileModel" 18 12 12 true := ⟨mmR_12, mmT_12, 57, rfl, rfl, by decide, mmI_12, mmY_12, mmN_12, rfl, (kw_m5 (i := 155) (by decide +kernel) (by decide +kernel))⟩
theorem fi_Md_14 : kw_fi "PictureFileModel" 14 12 11 true := ⟨mmR_12, mmT_12, 57, rfl, rfl, by decide, mmI_12, mmY_12, mmN_12, rfl, (kw_m5 (i := 154) (by decide +kernel) (by decide +kernel))⟩
theorem fi_Md_24 : kw_fi "PictureFileModel" 24 12 21 true := ⟨mmR_12, mmT_12, 57, rfl, rfl, by decide, mmI_12, mmY_12, mmN_12, rfl, (kw_m5 (i := 164) (by decide +kernel) (by decide +kernel))⟩
def y_Md_takeOver : MethodName := ⟨"PictureFileModel", "takeOver", "()V"⟩
theorem w_Md_takeOver : Cond.code y_Md_takeOver prog_14_method_63_code 2 none ∈ kw_Ts := (kw_m7 (i := 76) (by decide +kernel) (by decide +kernel))
theorem mi_Md_332 : kw_mi "PictureFileModel" 332 y_Md_readFile prog_14_method_27_code 3 (some .boolean) 0 := ⟨(kw_m6 (i := 119) (by decide +kernel) (by decide +kernel)), w_Md_readFile, in_Md, by decide +kernel, by decide +kernel, by decide +kernel⟩
theorem v_Md_readFile : Cond.instanceMethod y_Md_readFile ∈ kw_Ts ∧ Cond.selects y_Md_readFile.cls y_Md_readFile y_Md_readFile ∈ kw_Ts := ⟨(kw_m6 (i := 121) (by decide +kernel) (by decide +kernel)), (kw_sel (i := 46) (by decide +kernel) (by decide +kernel))⟩
theorem mi_Md_335 : kw_mi "PictureFileModel" 335 y_Md_rows prog_14_method_23_code 10 none 5 := ⟨(kw_m6 (i := 164) (by decide +kernel) (by decide +kernel)), w_Md_rows, in_Md, by decide +kernel, by decide +kernel, by decide +kernel⟩
theorem v_Md_rows : Cond.instanceMethod y_Md_rows ∈ kw_Ts ∧ Cond.selects y_Md_rows.cls y_Md_rows y_Md_rows ∈ kw_Ts := ⟨(kw_m6 (i := 166) (by decide +kernel) (by decide +kernel)), (kw_sel (i := 55) (by decide +kernel) (by decide +kernel))⟩
theorem mi_Md_339 : kw_mi "PictureFileModel" 339 y_Md_unpack prog_14_method_42_code 7 (some .boolean) 0 := ⟨(kw_m6 (i := 186) (by decide +kernel) (by decide +kernel)), w_Md_unpack, in_Md, by decide +kernel, by decide +kernel, by decide +kernel⟩
theorem v_Md_unpack : Cond.instanceMethod y_Md_unpack ∈ kw_Ts ∧ Cond.selects y_Md_unpack.cls y_Md_unpack y_Md_unpack ∈ kw_Ts := ⟨(kw_m6 (i := 188) (by decide +kernel) (by decide +kernel)), (kw_sel (i := 56) (by decide +kernel) (by decide +kernel))⟩
theorem mi_Md_342 : kw_mi "PictureFileModel" 342 y_Md_isPlain prog_14_method_60_code 4 (some .boolean) 0 := ⟨(kw_m7 (i := 47) (by decide +kernel) (by decide +kernel)), w_Md_isPlain, in_Md, by decide +kernel, by decide +kernel, by decide +kernel⟩
theorem v_Md_isPlain : Cond.instanceMethod y_Md_isPlain ∈ kw_Ts ∧ Cond.selects y_Md_isPlain.cls y_Md_isPlain y_Md_isPlain ∈ kw_Ts := ⟨(kw_m7 (i := 49) (by decide +kernel) (by decide +kernel)), (kw_sel (i := 75) (by decide +kernel) (by decide +kernel))⟩
theorem mi_Md_351 : kw_mi "PictureFileModel" 351 y_Md_takeOver prog_14_method_63_code 2 none 0 := ⟨(kw_m7 (i := 73) (by decide +kernel) (by decide +kernel)), w_Md_takeOver, in_Md, by decide +kernel, by decide +kernel, by decide +kernel⟩
theorem v_Md_takeOver : Cond.instanceMethod y_Md_takeOver ∈ kw_Ts ∧ Cond.selects y_Md_takeOver.cls y_Md_takeOver y_Md_takeOver ∈ kw_Ts := ⟨(kw_m7 (i := 75) (by decide +kernel) (by decide +kernel)), (kw_sel (i := 80) (by decide +kernel) (by decide +kernel))⟩
theorem mi_Md_345 : kw_mi "PictureFileModel" 345 y_Md_pointOf prog_14_method_24_code 5 (some .int) 3 := ⟨(kw_m7 (i := 65) (by decide +kernel) (by decide +kernel)), w_Md_pointOf, in_Md, by decide +kernel, by decide +kernel, by decide +kernel⟩
theorem v_Md_pointOf : Cond.instanceMethod y_Md_pointOf ∈ kw_Ts ∧ Cond.selects y_Md_pointOf.cls y_Md_pointOf y_Md_pointOf ∈ kw_Ts := ⟨(kw_m7 (i := 67) (by decide +kernel) (by decide +kernel)), (kw_sel (i := 78) (by decide +kernel) (by decide +kernel))⟩
theorem mi_Md_348 : kw_mi "PictureFileModel" 348 y_Md_sampleOf prog_14_method_61_code 7 (some .int) 3 := ⟨(kw_m7 (i := 69) (by decide +kernel) (by decide +kernel)), w_Md_sampleOf, in_Md, by decide +kernel, by decide +kernel, by decide +kernel⟩
theorem v_Md_sampleOf : Cond.instanceMethod y_Md_sampleOf ∈ kw_Ts ∧ Cond.selects y_Md_sampleOf.cls y_Md_sampleOf y_Md_sampleOf ∈ kw_Ts := ⟨(kw_m7 (i := 71) (by decide +kernel) (by decide +kernel)), (kw_sel (i := 79) (by decide +kernel) (by decide +kernel))⟩
def y_Md_read : MethodName := ⟨"PictureFileModel", "read", "()I"⟩
theorem w_Md_read : Cond.code y_Md_read prog_14_method_62_code 5 (some .int) ∈ kw_Ts := (kw_m6 (i := 118) (by decide +kernel) (by decide +kernel))
def y_Md_fault : MethodName := ⟨"PictureFileModel", "fault", "()I"⟩
theorem w_Md_fault : Cond.code y_Md_fault prog_14_method_64_code 1 (some .int) ∈ kw_Ts := (kw_m7 (i := 80) (by decide +kernel) (by decide +kernel))
/-! Md_unpack -/
def rm_Md_unpack : Room := { frames := 7, cells := 0, slots := 0, locals := 173 }
def F_Md_unpack (n : Nat) (t : Nat) (σ : Mm) : Option (Int32 × Mm) :=
kf_let (pJ σ (64 * t + 43) 0) fun σ1 =>
kf_let (pS σ1 (64 * t + 31) 0) fun σ2 =>
kf_c2 (F_Md_hasBits n t 8 σ2) fun x3 σ4 =>
if x3 = 0 then (
kf_z 0 (some (0, σ4))) else (
kf_c2 (F_Md_bits n t 8 σ4) fun x5 σ6 =>
kf_j (α := Unit) (fun x8 σ9 =>
kf_c2 (F_Md_placeOf n t 0 σ9) fun x10 σ11 =>
kf_c2 (F_Md_flaw n t 21 x10 σ11) fun x12 σ13 =>
kf_z x12 (some (x12, σ13))) fun k7 =>
if (x5 &&& 15) = 8 then (
if (x5 >>> (4 &&& 31)) ≤ 7 then (
kf_let (pS σ6 (64 * t + 44) ((1 : Int32) <<< (((x5 >>> (4 &&& 31)) + 8) &&& 31))) fun σ14 =>
kf_c2 (F_Md_hasBits n t 8 σ14) fun x15 σ16 =>
if x15 = 0 then (
kf_z 0 (some (0, σ16))) else (
kf_c2 (F_Md_bits n t 8 σ16) fun x17 σ18 =>
kf_nz 31 <|
kf_j (α := Unit) (fun x20 σ21 =>
kf_c2 (F_Md_placeOf n t 8 σ21) fun x22 σ23 =>
kf_c2 (F_Md_flaw n t 21 x22 σ23) fun x24 σ25 =>
kf_z x24 (some (x24, σ25))) fun k19 =>
if ((((256 : Int32) * x5) + x17) - (((256 : Int32) * x5) + x17) / 31 * 31) = 0 then (
if (x17 &&& 32) = 0 then (
kf_l (α := Int32) n (fun k26 x27 σ28 =>
if x27 = 0 then (
kf_c2 (F_Md_hasBits n t 1 σ28) fun x31 σ32 =>
if x31 = 0 then (
kf_z 0 (some (0, σ32))) else (
kf_c2 (F_Md_bits n t 1 σ32) fun x33 σ34 =>
kf_j (α := Int32) (fun x36 σ37 =>
kf_c2 (F_Md_hasBits n t 2 σ37) fun x38 σ39 =>
if x38 = 0 then (
kf_z 0 (some (0, σ39))) else (
kf_let (gJ σ39 (64 * t + 43) : Int64) fun x40 =>
kf_c2 (F_Md_bits n t 2 σ39) fun x41 σ42 =>
if x41 = 3 then (
kf_c2 (F_Md_placeOf n t x40 σ42) fun x56 σ57 =>
kf_c2 (F_Md_flaw n t 22 x56 σ57) fun x58 σ59 =>
kf_z x58 (some (x58, σ59))) else (
kf_j (α := Unit) (fun x44 σ45 =>
k26 x36 σ45) fun k43 =>
kf_j (α := Unit) (fun x47 σ48 =>
kf_z 0 (some (0, σ48))) fun k46 =>
if x41 = 0 then (
kf_c2 (F_Md_readPlain n t σ42) fun x54 σ55 =>
if x54 = 0 then (
k46 () σ55) else (
k43 () σ55)) else (
kf_j (α := Int32) (fun x50 σ51 =>
kf_c2 (F_Md_readBlock n t x50 σ51) fun x52 σ53 =>
if x52 = 0 then (
k46 () σ53) else (
k43 () σ53)) fun k49 =>
if x41 = 1 then (
k49 1 σ42) else (
k49 0 σ42))))) fun k35 =>
if x33 = 1 then (
k35 1 σ34) else (
k35 0 σ34))) else (
kf_c2 (F_Md_readSum n t σ28) fun x29 σ30 =>
kf_z x29 (some (x29, σ30)))) 0 σ18) else (
k19 () σ18)) else (
k19 () σ18))) else (
k7 () σ6)) else (
k7 () σ6))
theorem d_Md_unpack_0 : decode prog_14_method_42_code 0 = .ok (.aload_n 0, 1) := by decide +kernel
theorem d_Md_unpack_1 : decode prog_14_method_42_code 1 = .ok (.lconst 0, 1) := by decide +kernel
theorem d_Md_unpack_2 : decode prog_14_method_42_code 2 = .ok (.putfield 201, 3) := by decide +kernel
theorem d_Md_unpack_5 : decode prog_14_method_42_code 5 = .ok (.aload_n 0, 1) := by decide +kernel
theorem d_Md_unpack_6 : decode prog_14_method_42_code 6 = .ok (.iconst 0, 1) := by decide +kernel
theorem d_Md_unpack_7 : decode prog_14_method_42_code 7 = .ok (.putfield 240, 3) := by decide +kernel
theorem d_Md_unpack_10 : decode prog_14_method_42_code 10 = .ok (.aload_n 0, 1) := by decide +kernel
theorem d_Md_unpack_11 : decode prog_14_method_42_code 11 = .ok (.bipush 8, 2) := by decide +kernel
theorem d_Md_unpack_13 : decode prog_14_method_42_code 13 = .ok (.invokevirtual 223, 3) := by decide +kernel
theorem d_Md_unpack_16 : decode prog_14_method_42_code 16 = .ok (.ifCond .ne 5, 3) := by decide +kernel
theorem d_Md_unpack_19 : decode prog_14_method_42_code 19 = .ok (.iconst 0, 1) := by decide +kernel
theorem d_Md_unpack_20 : decode prog_14_method_42_code 20 = .ok (.ireturn, 1) := by decide +kernel
theorem d_Md_unpack_21 : decode prog_14_method_42_code 21 = .ok (.aload_n 0, 1) := by decide +kernel
theorem d_Md_unpack_22 : decode prog_14_method_42_code 22 = .ok (.bipush 8, 2) := by decide +kernel
theorem d_Md_unpack_24 : decode prog_14_method_42_code 24 = .ok (.invokevirtual 226, 3) := by decide +kernel
theorem d_Md_unpack_27 : decode prog_14_method_42_code 27 = .ok (.istore_n 1, 1) := by decide +kernel
theorem d_Md_unpack_28 : decode prog_14_method_42_code 28 = .ok (.iload_n 1, 1) := by decide +kernel
theorem d_Md_unpack_29 : decode prog_14_method_42_code 29 = .ok (.bipush 15, 2) := by decide +kernel
theorem d_Md_unpack_31 : decode prog_14_method_42_code 31 = .ok (.iand, 1) := by decide +kernel
theorem d_Md_unpack_32 : decode prog_14_method_42_code 32 = .ok (.bipush 8, 2) := by decide +kernel
theorem d_Md_unpack_34 : decode prog_14_method_42_code 34 = .ok (.if_icmp .ne 11, 3) := by decide +kernel
theorem d_Md_unpack_37 : decode prog_14_method_42_code 37 = .ok (.iload_n 1, 1) := by decide +kernel
theorem d_Md_unpack_38 : decode prog_14_method_42_code 38 = .ok (.iconst 4, 1) := by decide +kernel
theorem d_Md_unpack_39 : decode prog_14_method_42_code 39 = .ok (.ishr, 1) := by decide +kernel
theorem d_Md_unpack_40 : decode prog_14_method_42_code 40 = .ok (.bipush 7, 2) := by decide +kernel
theorem d_Md_unpack_42 : decode prog_14_method_42_code 42 = .ok (.if_icmp .le 15, 3) := by decide +kernel
theorem d_Md_unpack_45 : decode prog_14_method_42_code 45 = .ok (.aload_n 0, 1) := by decide +kernel
theorem d_Md_unpack_46 : decode prog_14_method_42_code 46 = .ok (.bipush 21, 2) := by decide +kernel
theorem d_Md_unpack_48 : decode prog_14_method_42_code 48 = .ok (.aload_n 0, 1) := by decide +kernel
theorem d_Md_unpack_49 : decode prog_14_method_42_code 49 = .ok (.lconst 0, 1) := by decide +kernel
theorem d_Md_unpack_50 : decode prog_14_method_42_code 50 = .ok (.invokevirtual 236, 3) := by decide +kernel
theorem d_Md_unpack_53 : decode prog_14_method_42_code 53 = .ok (.invokevirtual 122, 3) := by decide +kernel
theorem d_Md_unpack_56 : decode prog_14_method_42_code 56 = .ok (.ireturn, 1) := by decide +kernel
theorem d_Md_unpack_57 : decode prog_14_method_42_code 57 = .ok (.aload_n 0, 1) := by decide +kernel
theorem d_Md_unpack_58 : decode prog_14_method_42_code 58 = .ok (.iconst 1, 1) := by decide +kernel
theorem d_Md_unpack_59 : decode prog_14_method_42_code 59 = .ok (.iload_n 1, 1) := by decide +kernel
theorem d_Md_unpack_60 : decode prog_14_method_42_code 60 = .ok (.iconst 4, 1) := by decide +kernel
theorem d_Md_unpack_61 : decode prog_14_method_42_code 61 = .ok (.ishr, 1) := by decide +kernel
theorem d_Md_unpack_62 : decode prog_14_method_42_code 62 = .ok (.bipush 8, 2) := by decide +kernel
theorem d_Md_unpack_64 : decode prog_14_method_42_code 64 = .ok (.iadd, 1) := by decide +kernel
theorem d_Md_unpack_65 : decode prog_14_method_42_code 65 = .ok (.ishl, 1) := by decide +kernel
theorem d_Md_unpack_66 : decode prog_14_method_42_code 66 = .ok (.putfield 243, 3) := by decide +kernel
theorem d_Md_unpack_69 : decode prog_14_method_42_code 69 = .ok (.aload_n 0, 1) := by decide +kernel
theorem d_Md_unpack_70 : decode prog_14_method_42_code 70 = .ok (.bipush 8, 2) := by decide +kernel
theorem d_Md_unpack_72 : decode prog_14_method_42_code 72 = .ok (.invokevirtual 223, 3) := by decide +kernel
theorem d_Md_unpack_75 : decode prog_14_method_42_code 75 = .ok (.ifCond .ne 5, 3) := by decide +kernel
theorem d_Md_unpack_78 : decode prog_14_method_42_code 78 = .ok (.iconst 0, 1) := by decide +kernel
theorem d_Md_unpack_79 : decode prog_14_method_42_code 79 = .ok (.ireturn, 1) := by decide +kernel
theorem d_Md_unpack_80 : decode prog_14_method_42_code 80 = .ok (.aload_n 0, 1) := by decide +kernel
theorem d_Md_unpack_81 : decode prog_14_method_42_code 81 = .ok (.bipush 8, 2) := by decide +kernel
theorem d_Md_unpack_83 : decode prog_14_method_42_code 83 = .ok (.invokevirtual 226, 3) := by decide +kernel
theorem d_Md_unpack_86 : decode prog_14_method_42_code 86 = .ok (.istore_n 2, 1) := by decide +kernel
theorem d_Md_unpack_87 : decode prog_14_method_42_code 87 = .ok (.sipush 256, 3) := by decide +kernel
theorem d_Md_unpack_90 : decode prog_14_method_42_code 90 = .ok (.iload_n 1, 1) := by decide +kernel
theorem d_Md_unpack_91 : decode prog_14_method_42_code 91 = .ok (.imul, 1) := by decide +kernel
theorem d_Md_unpack_92 : decode prog_14_method_42_code 92 = .ok (.iload_n 2, 1) := by decide +kernel
theorem d_Md_unpack_93 : decode prog_14_method_42_code 93 = .ok (.iadd, 1) := by decide +kernel
theorem d_Md_unpack_94 : decode prog_14_method_42_code 94 = .ok (.bipush 31, 2) := by decide +kernel
theorem d_Md_unpack_96 : decode prog_14_method_42_code 96 = .ok (.irem, 1) := by decide +kernel
theorem d_Md_unpack_97 : decode prog_14_method_42_code 97 = .ok (.ifCond .ne 10, 3) := by decide +kernel
theorem d_Md_unpack_100 : decode prog_14_method_42_code 100 = .ok (.iload_n 2, 1) := by decide +kernel
theorem d_Md_unpack_101 : decode prog_14_method_42_code 101 = .ok (.bipush 32, 2) := by decide +kernel
theorem d_Md_unpack_103 : decode prog_14_method_42_code 103 = .ok (.iand, 1) := by decide +kernel
theorem d_Md_unpack_104 : decode prog_14_method_42_code 104 = .ok (.ifCond .eq 17, 3) := by decide +kernel
theorem d_Md_unpack_107 : decode prog_14_method_42_code 107 = .ok (.aload_n 0, 1) := by decide +kernel
theorem d_Md_unpack_108 : decode prog_14_method_42_code 108 = .ok (.bipush 21, 2) := by decide +kernel
theorem d_Md_unpack_110 : decode prog_14_method_42_code 110 = .ok (.aload_n 0, 1) := by decide +kernel
theorem d_Md_unpack_111 : decode prog_14_method_42_code 111 = .ok (.ldc2_w 199, 3) := by decide +kernel
theorem d_Md_unpack_114 : decode prog_14_method_42_code 114 = .ok (.invokevirtual 236, 3) := by decide +kernel
theorem d_Md_unpack_117 : decode prog_14_method_42_code 117 = .ok (.invokevirtual 122, 3) := by decide +kernel
theorem d_Md_unpack_120 : decode prog_14_method_42_code 120 = .ok (.ireturn, 1) := by decide +kernel
theorem d_Md_unpack_121 : decode prog_14_method_42_code 121 = .ok (.iconst 0, 1) := by decide +kernel
theorem d_Md_unpack_122 : decode prog_14_method_42_code 122 = .ok (.istore_n 3, 1) := by decide +kernel
theorem d_Md_unpack_123 : decode prog_14_method_42_code 123 = .ok (.iload_n 3, 1) := by decide +kernel
theorem d_Md_unpack_124 : decode prog_14_method_42_code 124 = .ok (.ifCond .ne 108, 3) := by decide +kernel
theorem d_Md_unpack_127 : decode prog_14_method_42_code 127 = .ok (.aload_n 0, 1) := by decide +kernel
theorem d_Md_unpack_128 : decode prog_14_method_42_code 128 = .ok (.iconst 1, 1) := by decide +kernel
theorem d_Md_unpack_129 : decode prog_14_method_42_code 129 = .ok (.invokevirtual 223, 3) := by decide +kernel
theorem d_Md_unpack_132 : decode prog_14_method_42_code 132 = .ok (.ifCond .ne 5, 3) := by decide +kernel
theorem d_Md_unpack_135 : decode prog_14_method_42_code 135 = .ok (.iconst 0, 1) := by decide +kernel
theorem d_Md_unpack_136 : decode prog_14_method_42_code 136 = .ok (.ireturn, 1) := by decide +kernel
theorem d_Md_unpack_137 : decode prog_14_method_42_code 137 = .ok (.aload_n 0, 1) := by decide +kernel
theorem d_Md_unpack_138 : decode prog_14_method_42_code 138 = .ok (.iconst 1, 1) := by decide +kernel
theorem d_Md_unpack_139 : decode prog_14_method_42_code 139 = .ok (.invokevirtual 226, 3) := by decide +kernel
theorem d_Md_unpack_142 : decode prog_14_method_42_code 142 = .ok (.iconst 1, 1) := by decide +kernel
theorem d_Md_unpack_143 : decode prog_14_method_42_code 143 = .ok (.if_icmp .ne 7, 3) := by decide +kernel
theorem d_Md_unpack_146 : decode prog_14_method_42_code 146 = .ok (.iconst 1, 1) := by decide +kernel
theorem d_Md_unpack_147 : decode prog_14_method_42_code 147 = .ok (.goto 4, 3) := by decide +kernel
theorem d_Md_unpack_150 : decode prog_14_method_42_code 150 = .ok (.iconst 0, 1) := by decide +kernel
theorem d_Md_unpack_151 : decode prog_14_method_42_code 151 = .ok (.istore_n 3, 1) := by decide +kernel
theorem d_Md_unpack_152 : decode prog_14_method_42_code 152 = .ok (.aload_n 0, 1) := by decide +kernel
theorem d_Md_unpack_153 : decode prog_14_method_42_code 153 = .ok (.iconst 2, 1) := by decide +kernel
theorem d_Md_unpack_154 : decode prog_14_method_42_code 154 = .ok (.invokevirtual 223, 3) := by decide +kernel
theorem d_Md_unpack_157 : decode prog_14_method_42_code 157 = .ok (.ifCond .ne 5, 3) := by decide +kernel
theorem d_Md_unpack_160 : decode prog_14_method_42_code 160 = .ok (.iconst 0, 1) := by decide +kernel
theorem d_Md_unpack_161 : decode prog_14_method_42_code 161 = .ok (.ireturn, 1) := by decide +kernel
theorem d_Md_unpack_162 : decode prog_14_method_42_code 162 = .ok (.aload_n 0, 1) := by decide +kernel
theorem d_Md_unpack_163 : decode prog_14_method_42_code 163 = .ok (.getfield 201, 3) := by decide +kernel
theorem d_Md_unpack_166 : decode prog_14_method_42_code 166 = .ok (.lstore 4, 2) := by decide +kernel
theorem d_Md_unpack_168 : decode prog_14_method_42_code 168 = .ok (.aload_n 0, 1) := by decide +kernel
theorem d_Md_unpack_169 : decode prog_14_method_42_code 169 = .ok (.iconst 2, 1) := by decide +kernel
theorem d_Md_unpack_170 : decode prog_14_method_42_code 170 = .ok (.invokevirtual 226, 3) := by decide +kernel
theorem d_Md_unpack_173 : decode prog_14_method_42_code 173 = .ok (.istore 6, 2) := by decide +kernel
theorem d_Md_unpack_175 : decode prog_14_method_42_code 175 = .ok (.iload 6, 2) := by decide +kernel
theorem d_Md_unpack_177 : decode prog_14_method_42_code 177 = .ok (.iconst 3, 1) := by decide +kernel
theorem d_Md_unpack_178 : decode prog_14_method_42_code 178 = .ok (.if_icmp .ne 16, 3) := by decide +kernel
theorem d_Md_unpack_181 : decode prog_14_method_42_code 181 = .ok (.aload_n 0, 1) := by decide +kernel
theorem d_Md_unpack_182 : decode prog_14_method_42_code 182 = .ok (.bipush 22, 2) := by decide +kernel
theorem d_Md_unpack_184 : decode prog_14_method_42_code 184 = .ok (.aload_n 0, 1) := by decide +kernel
theorem d_Md_unpack_185 : decode prog_14_method_42_code 185 = .ok (.lload 4, 2) := by decide +kernel
theorem d_Md_unpack_187 : decode prog_14_method_42_code 187 = .ok (.invokevirtual 236, 3) := by decide +kernel
theorem d_Md_unpack_190 : decode prog_14_method_42_code 190 = .ok (.invokevirtual 122, 3) := by decide +kernel
theorem d_Md_unpack_193 : decode prog_14_method_42_code 193 = .ok (.ireturn, 1) := by decide +kernel
theorem d_Md_unpack_194 : decode prog_14_method_42_code 194 = .ok (.iload 6, 2) := by decide +kernel
theorem d_Md_unpack_196 : decode prog_14_method_42_code 196 = .ok (.ifCond .ne 13, 3) := by decide +kernel
theorem d_Md_unpack_199 : decode prog_14_method_42_code 199 = .ok (.aload_n 0, 1) := by decide +kernel
theorem d_Md_unpack_200 : decode prog_14_method_42_code 200 = .ok (.invokevirtual 246, 3) := by decide +kernel
theorem d_Md_unpack_203 : decode prog_14_method_42_code 203 = .ok (.ifCond .ne 26, 3) := by decide +kernel
theorem d_Md_unpack_206 : decode prog_14_method_42_code 206 = .ok (.goto 21, 3) := by decide +kernel
theorem d_Md_unpack_209 : decode prog_14_method_42_code 209 = .ok (.aload_n 0, 1) := by decide +kernel
theorem d_Md_unpack_210 : decode prog_14_method_42_code 210 = .ok (.iload 6, 2) := by decide +kernel
theorem d_Md_unpack_212 : decode prog_14_method_42_code 212 = .ok (.iconst 1, 1) := by decide +kernel
theorem d_Md_unpack_213 : decode prog_14_method_42_code 213 = .ok (.if_icmp .ne 7, 3) := by decide +kernel
theorem d_Md_unpack_216 : decode prog_14_method_42_code 216 = .ok (.iconst 1, 1) := by decide +kernel
theorem d_Md_unpack_217 : decode prog_14_method_42_code 217 = .ok (.goto 4, 3) := by decide +kernel
theorem d_Md_unpack_220 : decode prog_14_method_42_code 220 = .ok (.iconst 0, 1) := by decide +kernel
theorem d_Md_unpack_221 : decode prog_14_method_42_code 221 = .ok (.invokevirtual 250, 3) := by decide +kernel
theorem d_Md_unpack_224 : decode prog_14_method_42_code 224 = .ok (.ifCond .ne 5, 3) := by decide +kernel
theorem d_Md_unpack_227 : decode prog_14_method_42_code 227 = .ok (.iconst 0, 1) := by decide +kernel
theorem d_Md_unpack_228 : decode prog_14_method_42_code 228 = .ok (.ireturn, 1) := by decide +kernel
theorem d_Md_unpack_229 : decode prog_14_method_42_code 229 = .ok (.goto (-106), 3) := by decide +kernel
theorem d_Md_unpack_232 : decode prog_14_method_42_code 232 = .ok (.aload_n 0, 1) := by decide +kernel
theorem d_Md_unpack_233 : decode prog_14_method_42_code 233 = .ok (.invokevirtual 254, 3) := by decide +kernel
theorem d_Md_unpack_236 : decode prog_14_method_42_code 236 = .ok (.ireturn, 1) := by decide +kernel
set_option maxRecDepth 100000 in
set_option maxHeartbeats 4000000 in
theorem c_Md_unpack {l0 : Launch} (hl : l0.stackTraces = false) (n : Nat) (ids : List Nat) {t : Nat} (ht : mm_ok ids t 1 12)  (σ : Mm) : kw_C l0 y_Md_unpack (Cond.code y_Md_unpack prog_14_method_42_code 7 (some .boolean) :: kw_Ts) rm_Md_unpack kw_oi ids [] [.ref t] σ (F_Md_unpack n t σ) := by
  refine kw_start (L0 := [some (.ref t), none, none, none, none, none, none]) hl (by decide +kernel) (Nat.le_of_ble_eq_true rfl) rfl (fun Γ ad C Ce => ?_)
  unfold F_Md_unpack
  refine kw_aload_n C d_Md_unpack_0 rfl ?_
  refine kw_lconst (v := 0) C d_Md_unpack_1 (by decide) ?_
  refine kw_putJ C fi_Md_201 rfl ht d_Md_unpack_2 (fun σ1 => ?_)
  refine kw_aload_n C d_Md_unpack_5 rfl ?_
  refine kw_iconst (v := 0) C d_Md_unpack_6 (by decide) ?_
  refine kw_putI C fi_Md_240 rfl ht d_Md_unpack_7 (fun σ2 => ?_)
  refine kw_aload_n C d_Md_unpack_10 rfl ?_
  refine kw_bipush (v := 8) C d_Md_unpack_11 (by decide) ?_
  refine kw_callVi (cl' := 0) (sl' := 0) (As := [.int 8]) C (c_Md_hasBits hl n ids ht 8 σ2) mi_Md_223 v_Md_hasBits ⟨_, _, rfl⟩ ht ⟨Nat.le_of_ble_eq_true rfl, Nat.le_of_ble_eq_true rfl⟩ (Nat.le_of_ble_eq_true rfl) ⟨Nat.le_of_ble_eq_true rfl, Nat.le_of_ble_eq_true rfl⟩ ⟨rfl, rfl⟩ rfl d_Md_unpack_13 (fun x3 σ4 => ?_)
  refine kw_if_ne (tgt := 21) C d_Md_unpack_16 (by decide) ?_ ?_
  · refine kw_aload_n C d_Md_unpack_21 rfl ?_
    refine kw_bipush (v := 8) C d_Md_unpack_22 (by decide) ?_
    refine kw_callVi (cl' := 0) (sl' := 0) (As := [.int 8]) C (c_Md_bits hl n ids ht 8 σ4) mi_Md_226 v_Md_bits ⟨_, _, rfl⟩ ht ⟨Nat.le_of_ble_eq_true rfl, Nat.le_of_ble_eq_true rfl⟩ (Nat.le_of_ble_eq_true rfl) ⟨Nat.le_of_ble_eq_true rfl, Nat.le_of_ble_eq_true rfl⟩ ⟨rfl, rfl⟩ rfl d_Md_unpack_24 (fun x5 σ6 => ?_)
    refine kw_istore_n (L' := [some (.ref t), some (.int x5), none, none, none, none, none]) C d_Md_unpack_27 (by decide) rfl ?_
    refine kw_iload_n C d_Md_unpack_28 rfl ?_
    refine kw_bipush (v := 15) C d_Md_unpack_29 (by decide) ?_
    refine kw_iand C d_Md_unpack_31 ?_
    refine kw_bipush (v := 8) C d_Md_unpack_32 (by decide) ?_
    refine kw_j (α := Unit) (pcj := 45) (Lj := fun x8 => [some (.ref t), none, none, none, none, none, none]) (stj := fun x8 => []) (fun x8 σ9 => ?_) (fun k7 hk7 => ?_)
    · refine kw_aload_n C d_Md_unpack_45 rfl ?_
      refine kw_bipush (v := 21) C d_Md_unpack_46 (by decide) ?_
      refine kw_aload_n C d_Md_unpack_48 rfl ?_
      refine kw_lconst (v := 0) C d_Md_unpack_49 (by decide) ?_
      refine kw_callVi (cl' := 0) (sl' := 0) (As := [.long 0]) C (c_Md_placeOf hl n ids ht 0 σ9) mi_Md_236 v_Md_placeOf ⟨_, _, rfl⟩ ht ⟨Nat.le_of_ble_eq_true rfl, Nat.le_of_ble_eq_true rfl⟩ (Nat.le_of_ble_eq_true rfl) ⟨Nat.le_of_ble_eq_true rfl, Nat.le_of_ble_eq_true rfl⟩ ⟨rfl, rfl⟩ rfl d_Md_unpack_50 (fun x10 σ11 => ?_)
      refine kw_callVi (cl' := 0) (sl' := 0) (As := [.int 21, .int x10]) C (c_Md_flaw hl n ids ht 21 x10 σ11) mi_Md_122 v_Md_flaw ⟨_, _, rfl⟩ ht ⟨Nat.le_of_ble_eq_true rfl, Nat.le_of_ble_eq_true rfl⟩ (Nat.le_of_ble_eq_true rfl) ⟨Nat.le_of_ble_eq_true rfl, Nat.le_of_ble_eq_true rfl⟩ ⟨rfl, rfl⟩ rfl d_Md_unpack_53 (fun x12 σ13 => ?_)
      exact kw_zret C Ce rfl (by simp) (fun _ _ => rfl) (Nat.le_of_ble_eq_true rfl) (Nat.le_of_ble_eq_true rfl) rfl d_Md_unpack_56
    · refine kw_icmp_ne (tgt := 45) C d_Md_unpack_34 (by decide) ?_ ?_
      · exact kw_wk (hk7 () σ6) ⟨Or.inr rfl, Or.inl rfl, Or.inl rfl, Or.inl rfl, Or.inl rfl, Or.inl rfl, Or.inl rfl, trivial⟩
      · refine kw_iload_n C d_Md_unpack_37 rfl ?_
        refine kw_iconst (v := 4) C d_Md_unpack_38 (by decide) ?_
        refine kw_ishr C d_Md_unpack_39 ?_
        refine kw_bipush (v := 7) C d_Md_unpack_40 (by decide) ?_
        refine kw_icmp_le (tgt := 57) C d_Md_unpack_42 (by decide) ?_ ?_
        · refine kw_aload_n C d_Md_unpack_57 rfl ?_
          refine kw_iconst (v := 1) C d_Md_unpack_58 (by decide) ?_
          refine kw_iload_n C d_Md_unpack_59 rfl ?_
          refine kw_iconst (v := 4) C d_Md_unpack_60 (by decide) ?_
          refine kw_ishr C d_Md_unpack_61 ?_
          refine kw_bipush (v := 8) C d_Md_unpack_62 (by decide) ?_
          refine kw_iadd C d_Md_unpack_64 ?_
          refine kw_ishl C d_Md_unpack_65 ?_
          refine kw_putI C fi_Md_243 rfl ht d_Md_unpack_66 (fun σ14 => ?_)
          refine kw_aload_n C d_Md_unpack_69 rfl ?_
          refine kw_bipush (v := 8) C d_Md_unpack_70 (by decide) ?_
          refine kw_callVi (cl' := 0) (sl' := 0) (As := [.int 8]) C (c_Md_hasBits hl n ids ht 8 σ14) mi_Md_223 v_Md_hasBits ⟨_, _, rfl⟩ ht ⟨Nat.le_of_ble_eq_true rfl, Nat.le_of_ble_eq_true rfl⟩ (Nat.le_of_ble_eq_true rfl) ⟨Nat.le_of_ble_eq_true rfl, Nat.le_of_ble_eq_true rfl⟩ ⟨rfl, rfl⟩ rfl d_Md_unpack_72 (fun x15 σ16 => ?_)
          refine kw_if_ne (tgt := 80) C d_Md_unpack_75 (by decide) ?_ ?_
          · refine kw_aload_n C d_Md_unpack_80 rfl ?_
            refine kw_bipush (v := 8) C d_Md_unpack_81 (by decide) ?_
            refine kw_callVi (cl' := 0) (sl' := 0) (As := [.int 8]) C (c_Md_bits hl n ids ht 8 σ16) mi_Md_226 v_Md_bits ⟨_, _, rfl⟩ ht ⟨Nat.le_of_ble_eq_true rfl, Nat.le_of_ble_eq_true rfl⟩ (Nat.le_of_ble_eq_true rfl) ⟨Nat.le_of_ble_eq_true rfl, Nat.le_of_ble_eq_true rfl⟩ ⟨rfl, rfl⟩ rfl d_Md_unpack_83 (fun x17 σ18 => ?_)
            refine kw_istore_n (L' := [some (.ref t), some (.int x5), some (.int x17), none, none, none, none]) C d_Md_unpack_86 (by decide) rfl ?_
            refine kw_sipush (v := 256) C d_Md_unpack_87 (by decide) ?_
            refine kw_iload_n C d_Md_unpack_90 rfl ?_
            refine kw_imul C d_Md_unpack_91 ?_
            refine kw_iload_n C d_Md_unpack_92 rfl ?_
            refine kw_iadd C d_Md_unpack_93 ?_
            refine kw_bipush (v := 31) C d_Md_unpack_94 (by decide) ?_
            refine kw_irem C d_Md_unpack_96 ?_
            refine kw_j (α := Unit) (pcj := 107) (Lj := fun x20 => [some (.ref t), none, none, none, none, none, none]) (stj := fun x20 => []) (fun x20 σ21 => ?_) (fun k19 hk19 => ?_)
            · refine kw_aload_n C d_Md_unpack_107 rfl ?_
              refine kw_bipush (v := 21) C d_Md_unpack_108 (by decide) ?_
              refine kw_aload_n C d_Md_unpack_110 rfl ?_
              refine kw_ldc2 (v := 8) C d_Md_unpack_111 k_Md_199 ?_
              refine kw_callVi (cl' := 0) (sl' := 0) (As := [.long 8]) C (c_Md_placeOf hl n ids ht 8 σ21) mi_Md_236 v_Md_placeOf ⟨_, _, rfl⟩ ht ⟨Nat.le_of_ble_eq_true rfl, Nat.le_of_ble_eq_true rfl⟩ (Nat.le_of_ble_eq_true rfl) ⟨Nat.le_of_ble_eq_true rfl, Nat.le_of_ble_eq_true rfl⟩ ⟨rfl, rfl⟩ rfl d_Md_unpack_114 (fun x22 σ23 => ?_)
              refine kw_callVi (cl' := 0) (sl' := 0) (As := [.int 21, .int x22]) C (c_Md_flaw hl n ids ht 21 x22 σ23) mi_Md_122 v_Md_flaw ⟨_, _, rfl⟩ ht ⟨Nat.le_of_ble_eq_true rfl, Nat.le_of_ble_eq_true rfl⟩ (Nat.le_of_ble_eq_true rfl) ⟨Nat.le_of_ble_eq_true rfl, Nat.le_of_ble_eq_true rfl⟩ ⟨rfl, rfl⟩ rfl d_Md_unpack_117 (fun x24 σ25 => ?_)
              exact kw_zret C Ce rfl (by simp) (fun _ _ => rfl) (Nat.le_of_ble_eq_true rfl) (Nat.le_of_ble_eq_true rfl) rfl d_Md_unpack_120
            · refine kw_if_ne (tgt := 107) C d_Md_unpack_97 (by decide) ?_ ?_
              · exact kw_wk (hk19 () σ18) ⟨Or.inr rfl, Or.inl rfl, Or.inl rfl, Or.inl rfl, Or.inl rfl, Or.inl rfl, Or.inl rfl, trivial⟩
              · refine kw_iload_n C d_Md_unpack_100 rfl ?_
                refine kw_bipush (v := 32) C d_Md_unpack_101 (by decide) ?_
                refine kw_iand C d_Md_unpack_103 ?_
                refine kw_if_eq (tgt := 121) C d_Md_unpack_104 (by decide) ?_ ?_
                · refine kw_iconst (v := 0) C d_Md_unpack_121 (by decide) ?_
                  refine kw_istore_n (L' := [some (.ref t), some (.int x5), some (.int x17), some (.int 0), none, none, none]) C d_Md_unpack_122 (by decide) rfl ?_
                  refine kw_wk (kw_l (α := Int32) (pc := 123) (Lj := fun x27 => [some (.ref t), none, none, some (.int x27), none, none, none]) (stj := fun x27 => []) (fun k26 hk26 x27 σ28 => ?_) n 0 σ18) ⟨Or.inr rfl, Or.inl rfl, Or.inl rfl, Or.inr rfl, Or.inl rfl, Or.inl rfl, Or.inl rfl, trivial⟩
                  refine kw_iload_n C d_Md_unpack_123 rfl ?_
                  refine kw_if_ne (tgt := 232) C d_Md_unpack_124 (by decide) ?_ ?_
                  · refine kw_aload_n C d_Md_unpack_232 rfl ?_
                    refine kw_callVi (cl' := 0) (sl' := 0) (As := []) C (c_Md_readSum hl n ids ht  σ28) mi_Md_254 v_Md_readSum ⟨_, _, rfl⟩ ht ⟨Nat.le_of_ble_eq_true rfl, Nat.le_of_ble_eq_true rfl⟩ (Nat.le_of_ble_eq_true rfl) ⟨Nat.le_of_ble_eq_true rfl, Nat.le_of_ble_eq_true rfl⟩ ⟨rfl, rfl⟩ rfl d_Md_unpack_233 (fun x29 σ30 => ?_)
                    exact kw_zret C Ce rfl (by simp) (fun _ _ => rfl) (Nat.le_of_ble_eq_true rfl) (Nat.le_of_ble_eq_true rfl) rfl d_Md_unpack_236
                  · refine kw_aload_n C d_Md_unpack_127 rfl ?_
                    refine kw_iconst (v := 1) C d_Md_unpack_128 (by decide) ?_
                    refine kw_callVi (cl' := 0) (sl' := 0) (As := [.int 1]) C (c_Md_hasBits hl n ids ht 1 σ28) mi_Md_223 v_Md_hasBits ⟨_, _, rfl⟩ ht ⟨Nat.le_of_ble_eq_true rfl, Nat.le_of_ble_eq_true rfl⟩ (Nat.le_of_ble_eq_true rfl) ⟨Nat.le_of_ble_eq_true rfl, Nat.le_of_ble_eq_true rfl⟩ ⟨rfl, rfl⟩ rfl d_Md_unpack_129 (fun x31 σ32 => ?_)
                    refine kw_if_ne (tgt := 137) C d_Md_unpack_132 (by decide) ?_ ?_
                    · refine kw_aload_n C d_Md_unpack_137 rfl ?_
                      refine kw_iconst (v := 1) C d_Md_unpack_138 (by decide) ?_
                      refine kw_callVi (cl' := 0) (sl' := 0) (As := [.int 1]) C (c_Md_bits hl n ids ht 1 σ32) mi_Md_226 v_Md_bits ⟨_, _, rfl⟩ ht ⟨Nat.le_of_ble_eq_true rfl, Nat.le_of_ble_eq_true rfl⟩ (Nat.le_of_ble_eq_true rfl) ⟨Nat.le_of_ble_eq_true rfl, Nat.le_of_ble_eq_true rfl⟩ ⟨rfl, rfl⟩ rfl d_Md_unpack_139 (fun x33 σ34 => ?_)
                      refine kw_iconst (v := 1) C d_Md_unpack_142 (by decide) ?_
                      refine kw_j (α := Int32) (pcj := 151) (Lj := fun x36 => [some (.ref t), none, none, none, none, none, none]) (stj := fun x36 => [.int x36]) (fun x36 σ37 => ?_) (fun k35 hk35 => ?_)
                      · refine kw_istore_n (L' := [some (.ref t), none, none, some (.int x36), none, none, none]) C d_Md_unpack_151 (by decide) rfl ?_
                        refine kw_aload_n C d_Md_unpack_152 rfl ?_
                        refine kw_iconst (v := 2) C d_Md_unpack_153 (by decide) ?_
                        refine kw_callVi (cl' := 0) (sl' := 0) (As := [.int 2]) C (c_Md_hasBits hl n ids ht 2 σ37) mi_Md_223 v_Md_hasBits ⟨_, _, rfl⟩ ht ⟨Nat.le_of_ble_eq_true rfl, Nat.le_of_ble_eq_true rfl⟩ (Nat.le_of_ble_eq_true rfl) ⟨Nat.le_of_ble_eq_true rfl, Nat.le_of_ble_eq_true rfl⟩ ⟨rfl, rfl⟩ rfl d_Md_unpack_154 (fun x38 σ39 => ?_)
                        refine kw_if_ne (tgt := 162) C d_Md_unpack_157 (by decide) ?_ ?_
                        · refine kw_aload_n C d_Md_unpack_162 rfl ?_
                          refine kw_getJ C fi_Md_201 rfl ht d_Md_unpack_163 ?_
                          refine kw_letl (fun x40 => ?_)
                          refine kw_lstore (L' := [some (.ref t), none, none, some (.int x36), some (.long x40), none, none]) C d_Md_unpack_166 (by decide) rfl ?_
                          refine kw_aload_n C d_Md_unpack_168 rfl ?_
                          refine kw_iconst (v := 2) C d_Md_unpack_169 (by decide) ?_
                          refine kw_callVi (cl' := 0) (sl' := 0) (As := [.int 2]) C (c_Md_bits hl n ids ht 2 σ39) mi_Md_226 v_Md_bits ⟨_, _, rfl⟩ ht ⟨Nat.le_of_ble_eq_true rfl, Nat.le_of_ble_eq_true rfl⟩ (Nat.le_of_ble_eq_true rfl) ⟨Nat.le_of_ble_eq_true rfl, Nat.le_of_ble_eq_true rfl⟩ ⟨rfl, rfl⟩ rfl d_Md_unpack_170 (fun x41 σ42 => ?_)
                          refine kw_istore (L' := [some (.ref t), none, none, some (.int x36), some (.long x40), none, some (.int x41)]) C d_Md_unpack_173 (by decide) rfl ?_
                          refine kw_iload C d_Md_unpack_175 rfl ?_
                          refine kw_iconst (v := 3) C d_Md_unpack_177 (by decide) ?_
                          refine kw_icmp_ne (tgt := 194) C d_Md_unpack_178 (by decide) ?_ ?_
                          · refine kw_iload C d_Md_unpack_194 rfl ?_
                            refine kw_j (α := Unit) (pcj := 229) (Lj := fun x44 => [some (.ref t), none, none, some (.int x36), none, none, none]) (stj := fun x44 => []) (fun x44 σ45 => ?_) (fun k43 hk43 => ?_)
                            · refine kw_goto (tgt := 123) C d_Md_unpack_229 (by decide) ?_
                              exact kw_wk (hk26 x36 σ45) ⟨Or.inr rfl, Or.inl rfl, Or.inl rfl, Or.inr rfl, Or.inl rfl, Or.inl rfl, Or.inl rfl, trivial⟩
                            · refine kw_j (α := Unit) (pcj := 227) (Lj := fun x47 => [none, none, none, none, none, none, none]) (stj := fun x47 => []) (fun x47 σ48 => ?_) (fun k46 hk46 => ?_)
                              · refine kw_iconst (v := 0) C d_Md_unpack_227 (by decide) ?_
                                exact kw_zret C Ce rfl (by simp) (fun _ _ => rfl) (Nat.le_of_ble_eq_true rfl) (Nat.le_of_ble_eq_true rfl) rfl d_Md_unpack_228
                              · refine kw_if_ne (tgt := 209) C d_Md_unpack_196 (by decide) ?_ ?_
                                · refine kw_aload_n C d_Md_unpack_209 rfl ?_
                                  refine kw_iload C d_Md_unpack_210 rfl ?_
                                  refine kw_iconst (v := 1) C d_Md_unpack_212 (by decide) ?_
                                  refine kw_j (α := Int32) (pcj := 221) (Lj := fun x50 => [some (.ref t), none, none, some (.int x36), none, none, none]) (stj := fun x50 => [.int x50, .ref t]) (fun x50 σ51 => ?_) (fun k49 hk49 => ?_)
                                  · refine kw_callVi (cl' := 0) (sl' := 0) (As := [.int x50]) C (c_Md_readBlock hl n ids ht x50 σ51) mi_Md_250 v_Md_readBlock ⟨_, _, rfl⟩ ht ⟨Nat.le_of_ble_eq_true rfl, Nat.le_of_ble_eq_true rfl⟩ (Nat.le_of_ble_eq_true rfl) ⟨Nat.le_of_ble_eq_true rfl, Nat.le_of_ble_eq_true rfl⟩ ⟨rfl, rfl⟩ rfl d_Md_unpack_221 (fun x52 σ53 => ?_)
                                    refine kw_if_ne (tgt := 229) C d_Md_unpack_224 (by decide) ?_ ?_
                                    · exact kw_wk (hk43 () σ53) ⟨Or.inr rfl, Or.inl rfl, Or.inl rfl, Or.inr rfl, Or.inl rfl, Or.inl rfl, Or.inl rfl, trivial⟩
                                    · exact kw_wk (hk46 () σ53) ⟨Or.inl rfl, Or.inl rfl, Or.inl rfl, Or.inl rfl, Or.inl rfl, Or.inl rfl, Or.inl rfl, trivial⟩
                                  · refine kw_icmp_ne (tgt := 220) C d_Md_unpack_213 (by decide) ?_ ?_
                                    · refine kw_iconst (v := 0) C d_Md_unpack_220 (by decide) ?_
                                      exact kw_wk (hk49 0 σ42) ⟨Or.inr rfl, Or.inl rfl, Or.inl rfl, Or.inr rfl, Or.inl rfl, Or.inl rfl, Or.inl rfl, trivial⟩
                                    · refine kw_iconst (v := 1) C d_Md_unpack_216 (by decide) ?_
                                      refine kw_goto (tgt := 221) C d_Md_unpack_217 (by decide) ?_
                                      exact kw_wk (hk49 1 σ42) ⟨Or.inr rfl, Or.inl rfl, Or.inl rfl, Or.inr rfl, Or.inl rfl, Or.inl rfl, Or.inl rfl, trivial⟩
                                · refine kw_aload_n C d_Md_unpack_199 rfl ?_
                                  refine kw_callVi (cl' := 0) (sl' := 0) (As := []) C (c_Md_readPlain hl n ids ht  σ42) mi_Md_246 v_Md_readPlain ⟨_, _, rfl⟩ ht ⟨Nat.le_of_ble_eq_true rfl, Nat.le_of_ble_eq_true rfl⟩ (Nat.le_of_ble_eq_true rfl) ⟨Nat.le_of_ble_eq_true rfl, Nat.le_of_ble_eq_true rfl⟩ ⟨rfl, rfl⟩ rfl d_Md_unpack_200 (fun x54 σ55 => ?_)
                                  refine kw_if_ne (tgt := 229) C d_Md_unpack_203 (by decide) ?_ ?_
                                  · exact kw_wk (hk43 () σ55) ⟨Or.inr rfl, Or.inl rfl, Or.inl rfl, Or.inr rfl, Or.inl rfl, Or.inl rfl, Or.inl rfl, trivial⟩
                                  · refine kw_goto (tgt := 227) C d_Md_unpack_206 (by decide) ?_
                                    exact kw_wk (hk46 () σ55) ⟨Or.inl rfl, Or.inl rfl, Or.inl rfl, Or.inl rfl, Or.inl rfl, Or.inl rfl, Or.inl rfl, trivial⟩
                          · refine kw_aload_n C d_Md_unpack_181 rfl ?_
                            refine kw_bipush (v := 22) C d_Md_unpack_182 (by decide) ?_
                            refine kw_aload_n C d_Md_unpack_184 rfl ?_
                            refine kw_lload C d_Md_unpack_185 rfl ?_
                            refine kw_callVi (cl' := 0) (sl' := 0) (As := [.long x40]) C (c_Md_placeOf hl n ids ht x40 σ42) mi_Md_236 v_Md_placeOf ⟨_, _, rfl⟩ ht ⟨Nat.le_of_ble_eq_true rfl, Nat.le_of_ble_eq_true rfl⟩ (Nat.le_of_ble_eq_true rfl) ⟨Nat.le_of_ble_eq_true rfl, Nat.le_of_ble_eq_true rfl⟩ ⟨rfl, rfl⟩ rfl d_Md_unpack_187 (fun x56 σ57 => ?_)
                            refine kw_callVi (cl' := 0) (sl' := 0) (As := [.int 22, .int x56]) C (c_Md_flaw hl n ids ht 22 x56 σ57) mi_Md_122 v_Md_flaw ⟨_, _, rfl⟩ ht ⟨Nat.le_of_ble_eq_true rfl, Nat.le_of_ble_eq_true rfl⟩ (Nat.le_of_ble_eq_true rfl) ⟨Nat.le_of_ble_eq_true rfl, Nat.le_of_ble_eq_true rfl⟩ ⟨rfl, rfl⟩ rfl d_Md_unpack_190 (fun x58 σ59 => ?_)
                            exact kw_zret C Ce rfl (by simp) (fun _ _ => rfl) (Nat.le_of_ble_eq_true rfl) (Nat.le_of_ble_eq_true rfl) rfl d_Md_unpack_193
                        · refine kw_iconst (v := 0) C d_Md_unpack_160 (by decide) ?_
                          exact kw_zret C Ce rfl (by simp) (fun _ _ => rfl) (Nat.le_of_ble_eq_true rfl) (Nat.le_of_ble_eq_true rfl) rfl d_Md_unpack_161
                      · refine kw_icmp_ne (tgt := 150) C d_Md_unpack_143 (by decide) ?_ ?_
                        · refine kw_iconst (v := 0) C d_Md_unpack_150 (by decide) ?_
                          exact kw_wk (hk35 0 σ34) ⟨Or.inr rfl, Or.inl rfl, Or.inl rfl, Or.inl rfl, Or.inl rfl, Or.inl rfl, Or.inl rfl, trivial⟩
                        · refine kw_iconst (v := 1) C d_Md_unpack_146 (by decide) ?_
                          refine kw_goto (tgt := 151) C d_Md_unpack_147 (by decide) ?_
                          exact kw_wk (hk35 1 σ34) ⟨Or.inr rfl, Or.inl rfl, Or.inl rfl, Or.inl rfl, Or.inl rfl, Or.inl rfl, Or.inl rfl, trivial⟩
                    · refine kw_iconst (v := 0) C d_Md_unpack_135 (by decide) ?_
                      exact kw_zret C Ce rfl (by simp) (fun _ _ => rfl) (Nat.le_of_ble_eq_true rfl) (Nat.le_of_ble_eq_true rfl) rfl d_Md_unpack_136
                · exact kw_wk (hk19 () σ18) ⟨Or.inr rfl, Or.inl rfl, Or.inl rfl, Or.inl rfl, Or.inl rfl, Or.inl rfl, Or.inl rfl, trivial⟩
          · refine kw_iconst (v := 0) C d_Md_unpack_78 (by decide) ?_
            exact kw_zret C Ce rfl (by simp) (fun _ _ => rfl) (Nat.le_of_ble_eq_true rfl) (Nat.le_of_ble_eq_true rfl) rfl d_Md_unpack_79
        · exact kw_wk (hk7 () σ6) ⟨Or.inr rfl, Or.inl rfl, Or.inl rfl, Or.inl rfl, Or.inl rfl, Or.inl rfl, Or.inl rfl, trivial⟩
  · refine kw_iconst (v := 0) C d_Md_unpack_19 (by decide) ?_
    exact kw_zret C Ce rfl (by simp) (fun _ _ => rfl) (Nat.le_of_ble_eq_true rfl) (Nat.le_of_ble_eq_true rfl) rfl d_Md_unpack_20
/-! Md_nearest -/
def rm_Md_nearest : Room := { frames := 1, cells := 0, slots := 0, locals := 20 }
def F_Md_nearest (n : Nat) (a0 : Int32) (a1 : Int32) (a2 : Int32) (σ : Mm) : Option (Int32 × Mm) :=
kf_let ((a0 + a1) - a2 : Int32) fun x1 =>
kf_c2 (F_Md_size n (x1 - a0) σ) fun x2 σ3 =>
kf_c2 (F_Md_size n (x1 - a1) σ3) fun x4 σ5 =>
kf_c2 (F_Md_size n (x1 - a2) σ5) fun x6 σ7 =>
kf_j (α := Int32) (fun x9 σ10 =>
some (x9, σ10)) fun k8 =>
kf_j (α := Unit) (fun x12 σ13 =>
if x6 < x4 then (
k8 a2 σ13) else (
k8 a1 σ13)) fun k11 =>
if x4 < x2 then (
k11 () σ7) else (
if x6 < x2 then (
k11 () σ7) else (
k8 a0 σ7))
theorem d_Md_nearest_0 : decode prog_14_method_57_code 0 = .ok (.iload_n 0, 1) := by decide +kernel
theorem d_Md_nearest_1 : decode prog_14_method_57_code 1 = .ok (.iload_n 1, 1) := by decide +kernel
theorem d_Md_nearest_2 : decode prog_14_method_57_code 2 = .ok (.iadd, 1) := by decide +kernel
theorem d_Md_nearest_3 : decode prog_14_method_57_code 3 = .ok (.iload_n 2, 1) := by decide +kernel
theorem d_Md_nearest_4 : decode prog_14_method_57_code 4 = .ok (.isub, 1) := by decide +kernel
theorem d_Md_nearest_5 : decode prog_14_method_57_code 5 = .ok (.istore_n 3, 1) := by decide +kernel
theorem d_Md_nearest_6 : decode prog_14_method_57_code 6 = .ok (.iload_n 3, 1) := by decide +kernel
theorem d_Md_nearest_7 : decode prog_14_method_57_code 7 = .ok (.iload_n 0, 1) := by decide +kernel
theorem d_Md_nearest_8 : decode prog_14_method_57_code 8 = .ok (.isub, 1) := by decide +kernel
theorem d_Md_nearest_9 : decode prog_14_method_57_code 9 = .ok (.invokestatic 314, 3) := by decide +kernel
theorem d_Md_nearest_12 : decode prog_14_method_57_code 12 = .ok (.istore 4, 2) := by decide +kernel
theorem d_Md_nearest_14 : decode prog_14_method_57_code 14 = .ok (.iload_n 3, 1) := by decide +kernel
theorem d_Md_nearest_15 : decode prog_14_method_57_code 15 = .ok (.iload_n 1, 1) := by decide +kernel
theorem d_Md_nearest_16 : decode prog_14_method_57_code 16 = .ok (.isub, 1) := by decide +kernel
theorem d_Md_nearest_17 : decode prog_14_method_57_code 17 = .ok (.invokestatic 314, 3) := by decide +kernel
theorem d_Md_nearest_20 : decode prog_14_method_57_code 20 = .ok (.istore 5, 2) := by decide +kernel
theorem d_Md_nearest_22 : decode prog_14_method_57_code 22 = .ok (.iload_n 3, 1) := by decide +kernel
theorem d_Md_nearest_23 : decode prog_14_method_57_code 23 = .ok (.iload_n 2, 1) := by decide +kernel
theorem d_Md_nearest_24 : decode prog_14_method_57_code 24 = .ok (.isub, 1) := by decide +kernel
theorem d_Md_nearest_25 : decode prog_14_method_57_code 25 = .ok (.invokestatic 314, 3) := by decide +kernel
theorem d_Md_nearest_28 : decode prog_14_method_57_code 28 = .ok (.istore 6, 2) := by decide +kernel
theorem d_Md_nearest_30 : decode prog_14_method_57_code 30 = .ok (.iload 4, 2) := by decide +kernel
theorem d_Md_nearest_32 : decode prog_14_method_57_code 32 = .ok (.iload 5, 2) := by decide +kernel
theorem d_Md_nearest_34 : decode prog_14_method_57_code 34 = .ok (.if_icmp .gt 14, 3) := by decide +kernel
theorem d_Md_nearest_37 : decode prog_14_method_57_code 37 = .ok (.iload 4, 2) := by decide +kernel
theorem d_Md_nearest_39 : decode prog_14_method_57_code 39 = .ok (.iload 6, 2) := by decide +kernel
theorem d_Md_nearest_41 : decode prog_14_method_57_code 41 = .ok (.if_icmp .gt 7, 3) := by decide +kernel
theorem d_Md_nearest_44 : decode prog_14_method_57_code 44 = .ok (.iload_n 0, 1) := by decide +kernel
theorem d_Md_nearest_45 : decode prog_14_method_57_code 45 = .ok (.goto 15, 3) := by decide +kernel
theorem d_Md_nearest_48 : decode prog_14_method_57_code 48 = .ok (.iload 5, 2) := by decide +kernel
theorem d_Md_nearest_50 : decode prog_14_method_57_code 50 = .ok (.iload 6, 2) := by decide +kernel
theorem d_Md_nearest_52 : decode prog_14_method_57_code 52 = .ok (.if_icmp .gt 7, 3) := by decide +kernel
theorem d_Md_nearest_55 : decode prog_14_method_57_code 55 = .ok (.iload_n 1, 1) := by decide +kernel
theorem d_Md_nearest_56 : decode prog_14_method_57_code 56 = .ok (.goto 4, 3) := by decide +kernel
theorem d_Md_nearest_59 : decode prog_14_method_57_code 59 = .ok (.iload_n 2, 1) := by decide +kernel
theorem d_Md_nearest_60 : decode prog_14_method_57_code 60 = .ok (.ireturn, 1) := by decide +kernel
set_option maxRecDepth 100000 in
set_option maxHeartbeats 4000000 in
theorem c_Md_nearest {l0 : Launch} (hl : l0.stackTraces = false) (n : Nat) (ids : List Nat)  (a0 : Int32) (a1 : Int32) (a2 : Int32) (σ : Mm) : kw_C l0 y_Md_nearest (Cond.code y_Md_nearest prog_14_method_57_code 7 (some .int) :: kw_Ts) rm_Md_nearest kw_oi ids [] [.int a0, .int a1, .int a2] σ (F_Md_nearest n a0 a1 a2 σ) := by
  refine kw_start (L0 := [some (.int a0), some (.int a1), some (.int a2), none, none, none, none]) hl (by decide +kernel) (Nat.le_of_ble_eq_true rfl) rfl (fun Γ ad C Ce => ?_)
  unfold F_Md_nearest
  refine kw_iload_n C d_Md_nearest_0 rfl ?_
  refine kw_iload_n C d_Md_nearest_1 rfl ?_
  refine kw_iadd C d_Md_nearest_2 ?_
  refine kw_iload_n C d_Md_nearest_3 rfl ?_
  refine kw_isub C d_Md_nearest_4 ?_
  refine kw_leti (fun x1 => ?_)
  refine kw_istore_n (L' := [some (.int a0), some (.int a1), some (.int a2), some (.int x1), none, none, none]) C d_Md_nearest_5 (by decide) rfl ?_
  refine kw_iload_n C d_Md_nearest_6 rfl ?_
  refine kw_iload_n C d_Md_nearest_7 rfl ?_
  refine kw_isub C d_Md_nearest_8 ?_
  refine kw_callSi (cl' := 0) (sl' := 0) (As := [.int (x1 - a0)]) C (c_Md_size hl n ids  (x1 - a0) σ) mi_Md_314 s_Md_size ⟨Nat.le_of_ble_eq_true rfl, Nat.le_of_ble_eq_true rfl⟩ (Nat.le_of_ble_eq_true rfl) ⟨Nat.le_of_ble_eq_true rfl, Nat.le_of_ble_eq_true rfl⟩ ⟨rfl, rfl⟩ rfl d_Md_nearest_9 (fun x2 σ3 => ?_)
  refine kw_istore (L' := [some (.int a0), some (.int a1), some (.int a2), some (.int x1), some (.int x2), none, none]) C d_Md_nearest_12 (by decide) rfl ?_
  refine kw_iload_n C d_Md_nearest_14 rfl ?_
  refine kw_iload_n C d_Md_nearest_15 rfl ?_
  refine kw_isub C d_Md_nearest_16 ?_
  refine kw_callSi (cl' := 0) (sl' := 0) (As := [.int (x1 - a1)]) C (c_Md_size hl n ids  (x1 - a1) σ3) mi_Md_314 s_Md_size ⟨Nat.le_of_ble_eq_true rfl, Nat.le_of_ble_eq_true rfl⟩ (Nat.le_of_ble_eq_true rfl) ⟨Nat.le_of_ble_eq_true rfl, Nat.le_of_ble_eq_true rfl⟩ ⟨rfl, rfl⟩ rfl d_Md_nearest_17 (fun x4 σ5 => ?_)
  refine kw_istore (L' := [some (.int a0), some (.int a1), some (.int a2), some (.int x1), some (.int x2), some (.int x4), none]) C d_Md_nearest_20 (by decide) rfl ?_
  refine kw_iload_n C d_Md_nearest_22 rfl ?_
  refine kw_iload_n C d_Md_nearest_23 rfl ?_
  refine kw_isub C d_Md_nearest_24 ?_
  refine kw_callSi (cl' := 0) (sl' := 0) (As := [.int (x1 - a2)]) C (c_Md_size hl n ids  (x1 - a2) σ5) mi_Md_314 s_Md_size ⟨Nat.le_of_ble_eq_true rfl, Nat.le_of_ble_eq_true rfl⟩ (Nat.le_of_ble_eq_true rfl) ⟨Nat.le_of_ble_eq_true rfl, Nat.le_of_ble_eq_true rfl⟩ ⟨rfl, rfl⟩ rfl d_Md_nearest_25 (fun x6 σ7 => ?_)
  refine kw_istore (L' := [some (.int a0), some (.int a1), some (.int a2), some (.int x1), some (.int x2), some (.int x4), some (.int x6)]) C d_Md_nearest_28 (by decide) rfl ?_
  refine kw_iload C d_Md_nearest_30 rfl ?_
  refine kw_iload C d_Md_nearest_32 rfl ?_
  refine kw_j (α := Int32) (pcj := 60) (Lj := fun x9 => [none, none, none, none, none, none, none]) (stj := fun x9 => [.int x9]) (fun x9 σ10 => ?_) (fun k8 hk8 => ?_)
  · exact kw_iret C Ce rfl (by simp) (fun _ _ => rfl) (Nat.le_of_ble_eq_true rfl) (Nat.le_of_ble_eq_true rfl) rfl d_Md_nearest_60
  · refine kw_j (α := Unit) (pcj := 48) (Lj := fun x12 => [none, some (.int a1), some (.int a2), none, none, some (.int x4), some (.int x6)]) (stj := fun x12 => []) (fun x12 σ13 => ?_) (fun k11 hk11 => ?_)
    · refine kw_iload C d_Md_nearest_48 rfl ?_
      refine kw_iload C d_Md_nearest_50 rfl ?_
      refine kw_icmp_gt (tgt := 59) C d_Md_nearest_52 (by decide) ?_ ?_
      · refine kw_iload_n C d_Md_nearest_59 rfl ?_
        exact kw_wk (hk8 a2 σ13) ⟨Or.inl rfl, Or.inl rfl, Or.inl rfl, Or.inl rfl, Or.inl rfl, Or.inl rfl, Or.inl rfl, trivial⟩
      · refine kw_iload_n C d_Md_nearest_55 rfl ?_
        refine kw_goto (tgt := 60) C d_Md_nearest_56 (by decide) ?_
        exact kw_wk (hk8 a1 σ13) ⟨Or.inl rfl, Or.inl rfl, Or.inl rfl, Or.inl rfl, Or.inl rfl, Or.inl rfl, Or.inl rfl, trivial⟩
    · refine kw_icmp_gt (tgt := 48) C d_Md_nearest_34 (by decide) ?_ ?_
      · exact kw_wk (hk11 () σ7) ⟨Or.inl rfl, Or.inr rfl, Or.inr rfl, Or.inl rfl, Or.inl rfl, Or.inr rfl, Or.inr rfl, trivial⟩
      · refine kw_iload C d_Md_nearest_37 rfl ?_
        refine kw_iload C d_Md_nearest_39 rfl ?_
        refine kw_icmp_gt (tgt := 48) C d_Md_nearest_41 (by decide) ?_ ?_
        · exact kw_wk (hk11 () σ7) ⟨Or.inl rfl, Or.inr rfl, Or.inr rfl, Or.inl rfl, Or.inl rfl, Or.inr rfl, Or.inr rfl, trivial⟩
        · refine kw_iload_n C d_Md_nearest_44 rfl ?_
          refine kw_goto (tgt := 60) C d_Md_nearest_45 (by decide) ?_
          exact kw_wk (hk8 a0 σ7) ⟨Or.inl rfl, Or.inl rfl, Or.inl rfl, Or.inl rfl, Or.inl rfl, Or.inl rfl, Or.inl rfl, trivial⟩
/-! Md_byteOf -/
def rm_Md_byteOf : Room := { frames := 0, cells := 0, slots := 0, locals := 0 }
def F_Md_byteOf (n : Nat) (t : Nat) (a0 : Int32) (a1 : Int32) (σ : Mm) : Option (Int32 × Mm) :=
kf_j (α := Int32) (fun x2 σ3 =>
some (x2, σ3)) fun k1 =>
if 0 ≤ a1 then (
Option.bind (gR σ (64 * t + 30)) fun o4 =>
Option.bind (gR σ (64 * t + 35)) fun o5 =>
kf_in a0 (mm_kd o5).2.2 <|
kf_let (((gB σ o5 a0.toNatClampNeg) + 1) + a1 : Int32) fun x6 =>
kf_in x6 (mm_kd o4).2.2 <|
k1 ((gB σ o4 x6.toNatClampNeg) &&& 255) σ) else (
k1 0 σ)
theorem d_Md_byteOf_0 : decode prog_14_method_58_code 0 = .ok (.iload_n 2, 1) := by decide +kernel
theorem d_Md_byteOf_1 : decode prog_14_method_58_code 1 = .ok (.ifCond .ge 7, 3) := by decide +kernel
theorem d_Md_byteOf_4 : decode prog_14_method_58_code 4 = .ok (.iconst 0, 1) := by decide +kernel
theorem d_Md_byteOf_5 : decode prog_14_method_58_code 5 = .ok (.goto 22, 3) := by decide +kernel
theorem d_Md_byteOf_8 : decode prog_14_method_58_code 8 = .ok (.aload_n 0, 1) := by decide +kernel
theorem d_Md_byteOf_9 : decode prog_14_method_58_code 9 = .ok (.getfield 40, 3) := by decide +kernel
theorem d_Md_byteOf_12 : decode prog_14_method_58_code 12 = .ok (.aload_n 0, 1) := by decide +kernel
theorem d_Md_byteOf_13 : decode prog_14_method_58_code 13 = .ok (.getfield 49, 3) := by decide +kernel
theorem d_Md_byteOf_16 : decode prog_14_method_58_code 16 = .ok (.iload_n 1, 1) := by decide +kernel
theorem d_Md_byteOf_17 : decode prog_14_method_58_code 17 = .ok (.iaload, 1) := by decide +kernel
theorem d_Md_byteOf_18 : decode prog_14_method_58_code 18 = .ok (.iconst 1, 1) := by decide +kernel
theorem d_Md_byteOf_19 : decode prog_14_method_58_code 19 = .ok (.iadd, 1) := by decide +kernel
theorem d_Md_byteOf_20 : decode prog_14_method_58_code 20 = .ok (.iload_n 2, 1) := by decide +kernel
theorem d_Md_byteOf_21 : decode prog_14_method_58_code 21 = .ok (.iadd, 1) := by decide +kernel
theorem d_Md_byteOf_22 : decode prog_14_method_58_code 22 = .ok (.baload, 1) := by decide +kernel
theorem d_Md_byteOf_23 : decode prog_14_method_58_code 23 = .ok (.sipush 255, 3) := by decide +kernel
theorem d_Md_byteOf_26 : decode prog_14_method_58_code 26 = .ok (.iand, 1) := by decide +kernel
theorem d_Md_byteOf_27 : decode prog_14_method_58_code 27 = .ok (.ireturn, 1) := by decide +kernel
set_option maxRecDepth 100000 in
set_option maxHeartbeats 4000000 in
theorem c_Md_byteOf {l0 : Launch} (hl : l0.stackTraces = false) (n : Nat) (ids : List Nat) {t : Nat} (ht : mm_ok ids t 1 12) (a0 : Int32) (a1 : Int32) (σ : Mm) : kw_C l0 y_Md_byteOf (Cond.code y_Md_byteOf prog_14_method_58_code 3 (some .int) :: kw_Ts) rm_Md_byteOf kw_oi ids [] [.ref t, .int a0, .int a1] σ (F_Md_byteOf n t a0 a1 σ) := by
  refine kw_start (L0 := [some (.ref t), some (.int a0), some (.int a1)]) hl (by decide +kernel) (Nat.le_of_ble_eq_true rfl) rfl (fun Γ ad C Ce => ?_)
  unfold F_Md_byteOf
  refine kw_iload_n C d_Md_byteOf_0 rfl ?_
  refine kw_j (α := Int32) (pcj := 27) (Lj := fun x2 => [none, none, none]) (stj := fun x2 => [.int x2]) (fun x2 σ3 => ?_) (fun k1 hk1 => ?_)
  · exact kw_iret C Ce rfl (by simp) (fun _ _ => rfl) (Nat.le_of_ble_eq_true rfl) (Nat.le_of_ble_eq_true rfl) rfl d_Md_byteOf_27
  · refine kw_if_ge (tgt := 8) C d_Md_byteOf_1 (by decide) ?_ ?_
    · refine kw_aload_n C d_Md_byteOf_8 rfl ?_
      refine kw_getR C fi_Md_40 rfl rfl ht d_Md_byteOf_9 (fun o4 ho4 => ?_)
      refine kw_aload_n C d_Md_byteOf_12 rfl ?_
      refine kw_getR C fi_Md_49 rfl rfl ht d_Md_byteOf_13 (fun o5 ho5 => ?_)
      refine kw_iload_n C d_Md_byteOf_16 rfl ?_
      refine kw_iald C (Or.inl ⟨ho5.1, ho5.2.1⟩) d_Md_byteOf_17 ?_
      refine kw_iconst (v := 1) C d_Md_byteOf_18 (by decide) ?_
      refine kw_iadd C d_Md_byteOf_19 ?_
      refine kw_iload_n C d_Md_byteOf_20 rfl ?_
      refine kw_iadd C d_Md_byteOf_21 ?_
      refine kw_leti (fun x6 => ?_)
      refine kw_bald C ho4 d_Md_byteOf_22 ?_
      refine kw_sipush (v := 255) C d_Md_byteOf_23 (by decide) ?_
      refine kw_iand C d_Md_byteOf_26 ?_
      exact kw_wk (hk1 ((gB σ o4 x6.toNatClampNeg) &&& 255) σ) ⟨Or.inl rfl, Or.inl rfl, Or.inl rfl, trivial⟩
    · refine kw_iconst (v := 0) C d_Md_byteOf_4 (by decide) ?_
      refine kw_goto (tgt := 27) C d_Md_byteOf_5 (by decide) ?_
      exact kw_wk (hk1 0 σ) ⟨Or.inl rfl, Or.inl rfl, Or.inl rfl, trivial⟩
/-! Md_guess -/
def rm_Md_guess : Room := { frames := 2, cells := 0, slots := 0, locals := 46 }
def F_Md_guess (n : Nat) (t : Nat) (a0 : Int32) (a1 : Int32) (a2 : Int32) (σ : Mm) : Option (Int32 × Mm) :=
kf_c2 (F_Md_channels n (gS σ (64 * t + 52)) σ) fun x1 σ2 =>
kf_nz 8 <|
kf_c2 (F_Md_max n 1 ((x1 * (gS σ2 (64 * t + 53))) / 8) σ2) fun x3 σ4 =>
kf_j (α := Int32) (fun x6 σ7 =>
kf_c2 (F_Md_byteOf n t a1 (a2 - x3) σ7) fun x8 σ9 =>
kf_j (α := Int32) (fun x11 σ12 =>
kf_j (α := Int32) (fun x14 σ15 =>
kf_j (α := Int32) (fun x17 σ18 =>
some (x17, σ18)) fun k16 =>
if a0 = 0 then (
k16 0 σ15) else (
if a0 = 1 then (
k16 x8 σ15) else (
if a0 = 2 then (
k16 x11 σ15) else (
if a0 = 3 then (
kf_nz 2 <|
k16 ((x8 + x11) / 2) σ15) else (
kf_c2 (F_Md_nearest n x8 x11 x14 σ15) fun x19 σ20 =>
k16 x19 σ20))))) fun k13 =>
if x6 = 0 then (
kf_c2 (F_Md_byteOf n t (a1 - 1) (a2 - x3) σ12) fun x21 σ22 =>
k13 x21 σ22) else (
k13 0 σ12)) fun k10 =>
if x6 = 0 then (
kf_c2 (F_Md_byteOf n t (a1 - 1) a2 σ9) fun x23 σ24 =>
k10 x23 σ24) else (
k10 0 σ9)) fun k5 =>
kf_j (α := Unit) (fun x26 σ27 =>
k5 1 σ27) fun k25 =>
if a1 = 0 then (
k25 () σ4) else (
Option.bind (gR σ4 (64 * t + 33)) fun o28 =>
kf_let (a1 - 1 : Int32) fun x29 =>
kf_in x29 (mm_kd o28).2.2 <|
Option.bind (gR σ4 (64 * t + 33)) fun o30 =>
kf_in a1 (mm_kd o30).2.2 <|
if (gB σ4 o28 x29.toNatClampNeg) = (gB σ4 o30 a1.toNatClampNeg) then (
k5 0 σ4) else (
k25 () σ4))
theorem d_Md_guess_0 : decode prog_14_method_59_code 0 = .ok (.iconst 1, 1) := by decide +kernel
theorem d_Md_guess_1 : decode prog_14_method_59_code 1 = .ok (.aload_n 0, 1) := by decide +kernel
theorem d_Md_guess_2 : decode prog_14_method_59_code 2 = .ok (.getfield 317, 3) := by decide +kernel
theorem d_Md_guess_5 : decode prog_14_method_59_code 5 = .ok (.invokestatic 119, 3) := by decide +kernel
theorem d_Md_guess_8 : decode prog_14_method_59_code 8 = .ok (.aload_n 0, 1) := by decide +kernel
theorem d_Md_guess_9 : decode prog_14_method_59_code 9 = .ok (.getfield 320, 3) := by decide +kernel
theorem d_Md_guess_12 : decode prog_14_method_59_code 12 = .ok (.imul, 1) := by decide +kernel
theorem d_Md_guess_13 : decode prog_14_method_59_code 13 = .ok (.bipush 8, 2) := by decide +kernel
theorem d_Md_guess_15 : decode prog_14_method_59_code 15 = .ok (.idiv, 1) := by decide +kernel
theorem d_Md_guess_16 : decode prog_14_method_59_code 16 = .ok (.invokestatic 212, 3) := by decide +kernel
theorem d_Md_guess_19 : decode prog_14_method_59_code 19 = .ok (.istore 4, 2) := by decide +kernel
theorem d_Md_guess_21 : decode prog_14_method_59_code 21 = .ok (.iload_n 2, 1) := by decide +kernel
theorem d_Md_guess_22 : decode prog_14_method_59_code 22 = .ok (.ifCond .eq 20, 3) := by decide +kernel
theorem d_Md_guess_25 : decode prog_14_method_59_code 25 = .ok (.aload_n 0, 1) := by decide +kernel
theorem d_Md_guess_26 : decode prog_14_method_59_code 26 = .ok (.getfield 43, 3) := by decide +kernel
theorem d_Md_guess_29 : decode prog_14_method_59_code 29 = .ok (.iload_n 2, 1) := by decide +kernel
theorem d_Md_guess_30 : decode prog_14_method_59_code 30 = .ok (.iconst 1, 1) := by decide +kernel
theorem d_Md_guess_31 : decode prog_14_method_59_code 31 = .ok (.isub, 1) := by decide +kernel
theorem d_Md_guess_32 : decode prog_14_method_59_code 32 = .ok (.iaload, 1) := by decide +kernel
theorem d_Md_guess_33 : decode prog_14_method_59_code 33 = .ok (.aload_n 0, 1) := by decide +kernel
theorem d_Md_guess_34 : decode prog_14_method_59_code 34 = .ok (.getfield 43, 3) := by decide +kernel
theorem d_Md_guess_37 : decode prog_14_method_59_code 37 = .ok (.iload_n 2, 1) := by decide +kernel
theorem d_Md_guess_38 : decode prog_14_method_59_code 38 = .ok (.iaload, 1) := by decide +kernel
theorem d_Md_guess_39 : decode prog_14_method_59_code 39 = .ok (.if_icmp .eq 7, 3) := by decide +kernel
theorem d_Md_guess_42 : decode prog_14_method_59_code 42 = .ok (.iconst 1, 1) := by decide +kernel
theorem d_Md_guess_43 : decode prog_14_method_59_code 43 = .ok (.goto 4, 3) := by decide +kernel
theorem d_Md_guess_46 : decode prog_14_method_59_code 46 = .ok (.iconst 0, 1) := by decide +kernel
theorem d_Md_guess_47 : decode prog_14_method_59_code 47 = .ok (.istore 5, 2) := by decide +kernel
theorem d_Md_guess_49 : decode prog_14_method_59_code 49 = .ok (.aload_n 0, 1) := by decide +kernel
theorem d_Md_guess_50 : decode prog_14_method_59_code 50 = .ok (.iload_n 2, 1) := by decide +kernel
theorem d_Md_guess_51 : decode prog_14_method_59_code 51 = .ok (.iload_n 3, 1) := by decide +kernel
theorem d_Md_guess_52 : decode prog_14_method_59_code 52 = .ok (.iload 4, 2) := by decide +kernel
theorem d_Md_guess_54 : decode prog_14_method_59_code 54 = .ok (.isub, 1) := by decide +kernel
theorem d_Md_guess_55 : decode prog_14_method_59_code 55 = .ok (.invokevirtual 323, 3) := by decide +kernel
theorem d_Md_guess_58 : decode prog_14_method_59_code 58 = .ok (.istore 6, 2) := by decide +kernel
theorem d_Md_guess_60 : decode prog_14_method_59_code 60 = .ok (.iload 5, 2) := by decide +kernel
theorem d_Md_guess_62 : decode prog_14_method_59_code 62 = .ok (.ifCond .eq 7, 3) := by decide +kernel
theorem d_Md_guess_65 : decode prog_14_method_59_code 65 = .ok (.iconst 0, 1) := by decide +kernel
theorem d_Md_guess_66 : decode prog_14_method_59_code 66 = .ok (.goto 11, 3) := by decide +kernel
theorem d_Md_guess_69 : decode prog_14_method_59_code 69 = .ok (.aload_n 0, 1) := by decide +kernel
theorem d_Md_guess_70 : decode prog_14_method_59_code 70 = .ok (.iload_n 2, 1) := by decide +kernel
theorem d_Md_guess_71 : decode prog_14_method_59_code 71 = .ok (.iconst 1, 1) := by decide +kernel
theorem d_Md_guess_72 : decode prog_14_method_59_code 72 = .ok (.isub, 1) := by decide +kernel
theorem d_Md_guess_73 : decode prog_14_method_59_code 73 = .ok (.iload_n 3, 1) := by decide +kernel
theorem d_Md_guess_74 : decode prog_14_method_59_code 74 = .ok (.invokevirtual 323, 3) := by decide +kernel
theorem d_Md_guess_77 : decode prog_14_method_59_code 77 = .ok (.istore 7, 2) := by decide +kernel
theorem d_Md_guess_79 : decode prog_14_method_59_code 79 = .ok (.iload 5, 2) := by decide +kernel
theorem d_Md_guess_81 : decode prog_14_method_59_code 81 = .ok (.ifCond .eq 7, 3) := by decide +kernel
theorem d_Md_guess_84 : decode prog_14_method_59_code 84 = .ok (.iconst 0, 1) := by decide +kernel
theorem d_Md_guess_85 : decode prog_14_method_59_code 85 = .ok (.goto 14, 3) := by decide +kernel
theorem d_Md_guess_88 : decode prog_14_method_59_code 88 = .ok (.aload_n 0, 1) := by decide +kernel
theorem d_Md_guess_89 : decode prog_14_method_59_code 89 = .ok (.iload_n 2, 1) := by decide +kernel
theorem d_Md_guess_90 : decode prog_14_method_59_code 90 = .ok (.iconst 1, 1) := by decide +kernel
theorem d_Md_guess_91 : decode prog_14_method_59_code 91 = .ok (.isub, 1) := by decide +kernel
theorem d_Md_guess_92 : decode prog_14_method_59_code 92 = .ok (.iload_n 3, 1) := by decide +kernel
theorem d_Md_guess_93 : decode prog_14_method_59_code 93 = .ok (.iload 4, 2) := by decide +kernel
theorem d_Md_guess_95 : decode prog_14_method_59_code 95 = .ok (.isub, 1) := by decide +kernel
theorem d_Md_guess_96 : decode prog_14_method_59_code 96 = .ok (.invokevirtual 323, 3) := by decide +kernel
theorem d_Md_guess_99 : decode prog_14_method_59_code 99 = .ok (.istore 8, 2) := by decide +kernel
theorem d_Md_guess_101 : decode prog_14_method_59_code 101 = .ok (.iload_n 1, 1) := by decide +kernel
theorem d_Md_guess_102 : decode prog_14_method_59_code 102 = .ok (.ifCond .ne 7, 3) := by decide +kernel
theorem d_Md_guess_105 : decode prog_14_method_59_code 105 = .ok (.iconst 0, 1) := by decide +kernel
theorem d_Md_guess_106 : decode prog_14_method_59_code 106 = .ok (.goto 47, 3) := by decide +kernel
theorem d_Md_guess_109 : decode prog_14_method_59_code 109 = .ok (.iload_n 1, 1) := by decide +kernel
theorem d_Md_guess_110 : decode prog_14_method_59_code 110 = .ok (.iconst 1, 1) := by decide +kernel
theorem d_Md_guess_111 : decode prog_14_method_59_code 111 = .ok (.if_icmp .ne 8, 3) := by decide +kernel
theorem d_Md_guess_114 : decode prog_14_method_59_code 114 = .ok (.iload 6, 2) := by decide +kernel
theorem d_Md_guess_116 : decode prog_14_method_59_code 116 = .ok (.goto 37, 3) := by decide +kernel
theorem d_Md_guess_119 : decode prog_14_method_59_code 119 = .ok (.iload_n 1, 1) := by decide +kernel
theorem d_Md_guess_120 : decode prog_14_method_59_code 120 = .ok (.iconst 2, 1) := by decide +kernel
theorem d_Md_guess_121 : decode prog_14_method_59_code 121 = .ok (.if_icmp .ne 8, 3) := by decide +kernel
theorem d_Md_guess_124 : decode prog_14_method_59_code 124 = .ok (.iload 7, 2) := by decide +kernel
theorem d_Md_guess_126 : decode prog_14_method_59_code 126 = .ok (.goto 27, 3) := by decide +kernel
theorem d_Md_guess_129 : decode prog_14_method_59_code 129 = .ok (.iload_n 1, 1) := by decide +kernel
theorem d_Md_guess_130 : decode prog_14_method_59_code 130 = .ok (.iconst 3, 1) := by decide +kernel
theorem d_Md_guess_131 : decode prog_14_method_59_code 131 = .ok (.if_icmp .ne 13, 3) := by decide +kernel
theorem d_Md_guess_134 : decode prog_14_method_59_code 134 = .ok (.iload 6, 2) := by decide +kernel
theorem d_Md_guess_136 : decode prog_14_method_59_code 136 = .ok (.iload 7, 2) := by decide +kernel
theorem d_Md_guess_138 : decode prog_14_method_59_code 138 = .ok (.iadd, 1) := by decide +kernel
theorem d_Md_guess_139 : decode prog_14_method_59_code 139 = .ok (.iconst 2, 1) := by decide +kernel
theorem d_Md_guess_140 : decode prog_14_method_59_code 140 = .ok (.idiv, 1) := by decide +kernel
theorem d_Md_guess_141 : decode prog_14_method_59_code 141 = .ok (.goto 12, 3) := by decide +kernel
theorem d_Md_guess_144 : decode prog_14_method_59_code 144 = .ok (.iload 6, 2) := by decide +kernel
theorem d_Md_guess_146 : decode prog_14_method_59_code 146 = .ok (.iload 7, 2) := by decide +kernel
theorem d_Md_guess_148 : decode prog_14_method_59_code 148 = .ok (.iload 8, 2) := by decide +kernel
theorem d_Md_guess_150 : decode prog_14_method_59_code 150 = .ok (.invokestatic 326, 3) := by decide +kernel
theorem d_Md_guess_153 : decode prog_14_method_59_code 153 = .ok (.ireturn, 1) := by decide +kernel
set_option maxRecDepth 100000 in
set_option maxHeartbeats 4000000 in
theorem c_Md_guess {l0 : Launch} (hl : l0.stackTraces = false) (n : Nat) (ids : List Nat) {t : Nat} (ht : mm_ok ids t 1 12) (a0 : Int32) (a1 : Int32) (a2 : Int32) (σ : Mm) : kw_C l0 y_Md_guess (Cond.code y_Md_guess prog_14_method_59_code 9 (some .int) :: kw_Ts) rm_Md_guess kw_oi ids [] [.ref t, .int a0, .int a1, .int a2] σ (F_Md_guess n t a0 a1 a2 σ) := by
  refine kw_start (L0 := [some (.ref t), some (.int a0), some (.int a1), some (.int a2), none, none, none, none, none]) hl (by decide +kernel) (Nat.le_of_ble_eq_true rfl) rfl (fun Γ ad C Ce => ?_)
  unfold F_Md_guess
  refine kw_iconst (v := 1) C d_Md_guess_0 (by decide) ?_
  refine kw_aload_n C d_Md_guess_1 rfl ?_
  refine kw_getI C fi_Md_317 (Or.inl rfl) ht d_Md_guess_2 ?_
  refine kw_callSi (cl' := 0) (sl' := 0) (As := [.int (gS σ (64 * t + 52))]) C (c_Md_channels hl n ids  (gS σ (64 * t + 52)) σ) mi_Md_119 s_Md_channels ⟨Nat.le_of_ble_eq_true rfl, Nat.le_of_ble_eq_true rfl⟩ (Nat.le_of_ble_eq_true rfl) ⟨Nat.le_of_ble_eq_true rfl, Nat.le_of_ble_eq_true rfl⟩ ⟨rfl, rfl⟩ rfl d_Md_guess_5 (fun x1 σ2 => ?_)
  refine kw_aload_n C d_Md_guess_8 rfl ?_
  refine kw_getI C fi_Md_320 (Or.inl rfl) ht d_Md_guess_9 ?_
  refine kw_imul C d_Md_guess_12 ?_
  refine kw_bipush (v := 8) C d_Md_guess_13 (by decide) ?_
  refine kw_idiv C d_Md_guess_15 ?_
  refine kw_callSi (cl' := 0) (sl' := 0) (As := [.int 1, .int ((x1 * (gS σ2 (64 * t + 53))) / 8)]) C (c_Md_max hl n ids  1 ((x1 * (gS σ2 (64 * t + 53))) / 8) σ2) mi_Md_212 s_Md_max ⟨Nat.le_of_ble_eq_true rfl, Nat.le_of_ble_eq_true rfl⟩ (Nat.le_of_ble_eq_true rfl) ⟨Nat.le_of_ble_eq_true rfl, Nat.le_of_ble_eq_true rfl⟩ ⟨rfl, rfl⟩ rfl d_Md_guess_16 (fun x3 σ4 => ?_)
  refine kw_istore (L' := [some (.ref t), some (.int a0), some (.int a1), some (.int a2), some (.int x3), none, none, none, none]) C d_Md_guess_19 (by decide) rfl ?_
  refine kw_iload_n C d_Md_guess_21 rfl ?_
  refine kw_j (α := Int32) (pcj := 47) (Lj := fun x6 => [some (.ref t), some (.int a0), some (.int a1), some (.int a2), some (.int x3), none, none, none, none]) (stj := fun x6 => [.int x6]) (fun x6 σ7 => ?_) (fun k5 hk5 => ?_)
  · refine kw_istore (L' := [some (.ref t), some (.int a0), some (.int a1), some (.int a2), some (.int x3), some (.int x6), none, none, none]) C d_Md_guess_47 (by decide) rfl ?_
    refine kw_aload_n C d_Md_guess_49 rfl ?_
    refine kw_iload_n C d_Md_guess_50 rfl ?_
    refine kw_iload_n C d_Md_guess_51 rfl ?_
    refine kw_iload C d_Md_guess_52 rfl ?_
    refine kw_isub C d_Md_guess_54 ?_
    refine kw_callVi (cl' := 0) (sl' := 0) (As := [.int a1, .int (a2 - x3)]) C (c_Md_byteOf hl n ids ht a1 (a2 - x3) σ7) mi_Md_323 v_Md_byteOf ⟨_, _, rfl⟩ ht ⟨Nat.le_of_ble_eq_true rfl, Nat.le_of_ble_eq_true rfl⟩ (Nat.le_of_ble_eq_true rfl) ⟨Nat.le_of_ble_eq_true rfl, Nat.le_of_ble_eq_true rfl⟩ ⟨rfl, rfl⟩ rfl d_Md_guess_55 (fun x8 σ9 => ?_)
    refine kw_istore (L' := [some (.ref t), some (.int a0), some (.int a1), some (.int a2), some (.int x3), some (.int x6), some (.int x8), none, none]) C d_Md_guess_58 (by decide) rfl ?_
    refine kw_iload C d_Md_guess_60 rfl ?_
    refine kw_j (α := Int32) (pcj := 77) (Lj := fun x11 => [some (.ref t), some (.int a0), some (.int a1), some (.int a2), some (.int x3), some (.int x6), some (.int x8), none, none]) (stj := fun x11 => [.int x11]) (fun x11 σ12 => ?_) (fun k10 hk10 => ?_)
    · refine kw_istore (L' := [some (.ref t), some (.int a0), some (.int a1), some (.int a2), some (.int x3), some (.int x6), some (.int x8), some (.int x11), none]) C d_Md_guess_77 (by decide) rfl ?_
      refine kw_iload C d_Md_guess_79 rfl ?_
      refine kw_j (α := Int32) (pcj := 99) (Lj := fun x14 => [none, some (.int a0), none, none, none, none, some (.int x8), some (.int x11), none]) (stj := fun x14 => [.int x14]) (fun x14 σ15 => ?_) (fun k13 hk13 => ?_)
      · refine kw_istore (L' := [none, some (.int a0), none, none, none, none, some (.int x8), some (.int x11), some (.int x14)]) C d_Md_guess_99 (by decide) rfl ?_
        refine kw_iload_n C d_Md_guess_101 rfl ?_
        refine kw_j (α := Int32) (pcj := 153) (Lj := fun x17 => [none, none, none, none, none, none, none, none, none]) (stj := fun x17 => [.int x17]) (fun x17 σ18 => ?_) (fun k16 hk16 => ?_)
        · exact kw_iret C Ce rfl (by simp) (fun _ _ => rfl) (Nat.le_of_ble_eq_true rfl) (Nat.le_of_ble_eq_true rfl) rfl d_Md_guess_153
        · refine kw_if_ne (tgt := 109) C d_Md_guess_102 (by decide) ?_ ?_
          · refine kw_iload_n C d_Md_guess_109 rfl ?_
            refine kw_iconst (v := 1) C d_Md_guess_110 (by decide) ?_
            refine kw_icmp_ne (tgt := 119) C d_Md_guess_111 (by decide) ?_ ?_
            · refine kw_iload_n C d_Md_guess_119 rfl ?_
              refine kw_iconst (v := 2) C d_Md_guess_120 (by decide) ?_
              refine kw_icmp_ne (tgt := 129) C d_Md_guess_121 (by decide) ?_ ?_
              · refine kw_iload_n C d_Md_guess_129 rfl ?_
                refine kw_iconst (v := 3) C d_Md_guess_130 (by decide) ?_
                refine kw_icmp_ne (tgt := 144) C d_Md_guess_131 (by decide) ?_ ?_
                · refine kw_iload C d_Md_guess_144 rfl ?_
                  refine kw_iload C d_Md_guess_146 rfl ?_
                  refine kw_iload C d_Md_guess_148 rfl ?_
                  refine kw_callSi (cl' := 0) (sl' := 0) (As := [.int x8, .int x11, .int x14]) C (c_Md_nearest hl n ids  x8 x11 x14 σ15) mi_Md_326 s_Md_nearest ⟨Nat.le_of_ble_eq_true rfl, Nat.le_of_ble_eq_true rfl⟩ (Nat.le_of_ble_eq_true rfl) ⟨Nat.le_of_ble_eq_true rfl, Nat.le_of_ble_eq_true rfl⟩ ⟨rfl, rfl⟩ rfl d_Md_guess_150 (fun x19 σ20 => ?_)
                  exact kw_wk (hk16 x19 σ20) ⟨Or.inl rfl, Or.inl rfl, Or.inl rfl, Or.inl rfl, Or.inl rfl, Or.inl rfl, Or.inl rfl, Or.inl rfl, Or.inl rfl, trivial⟩
                · refine kw_iload C d_Md_guess_134 rfl ?_
                  refine kw_iload C d_Md_guess_136 rfl ?_
                  refine kw_iadd C d_Md_guess_138 ?_
                  refine kw_iconst (v := 2) C d_Md_guess_139 (by decide) ?_
                  refine kw_idiv C d_Md_guess_140 ?_
                  refine kw_goto (tgt := 153) C d_Md_guess_141 (by decide) ?_
                  exact kw_wk (hk16 ((x8 + x11) / 2) σ15) ⟨Or.inl rfl, Or.inl rfl, Or.inl rfl, Or.inl rfl, Or.inl rfl, Or.inl rfl, Or.inl rfl, Or.inl rfl, Or.inl rfl, trivial⟩
              · refine kw_iload C d_Md_guess_124 rfl ?_
                refine kw_goto (tgt := 153) C d_Md_guess_126 (by decide) ?_
                exact kw_wk (hk16 x11 σ15) ⟨Or.inl rfl, Or.inl rfl, Or.inl rfl, Or.inl rfl, Or.inl rfl, Or.inl rfl, Or.inl rfl, Or.inl rfl, Or.inl rfl, trivial⟩
            · refine kw_iload C d_Md_guess_114 rfl ?_
              refine kw_goto (tgt := 153) C d_Md_guess_116 (by decide) ?_
              exact kw_wk (hk16 x8 σ15) ⟨Or.inl rfl, Or.inl rfl, Or.inl rfl, Or.inl rfl, Or.inl rfl, Or.inl rfl, Or.inl rfl, Or.inl rfl, Or.inl rfl, trivial⟩
          · refine kw_iconst (v := 0) C d_Md_guess_105 (by decide) ?_
            refine kw_goto (tgt := 153) C d_Md_guess_106 (by decide) ?_
            exact kw_wk (hk16 0 σ15) ⟨Or.inl rfl, Or.inl rfl, Or.inl rfl, Or.inl rfl, Or.inl rfl, Or.inl rfl, Or.inl rfl, Or.inl rfl, Or.inl rfl, trivial⟩
      · refine kw_if_eq (tgt := 88) C d_Md_guess_81 (by decide) ?_ ?_
        · refine kw_aload_n C d_Md_guess_88 rfl ?_
          refine kw_iload_n C d_Md_guess_89 rfl ?_
          refine kw_iconst (v := 1) C d_Md_guess_90 (by decide) ?_
          refine kw_isub C d_Md_guess_91 ?_
          refine kw_iload_n C d_Md_guess_92 rfl ?_
          refine kw_iload C d_Md_guess_93 rfl ?_
          refine kw_isub C d_Md_guess_95 ?_
          refine kw_callVi (cl' := 0) (sl' := 0) (As := [.int (a1 - 1), .int (a2 - x3)]) C (c_Md_byteOf hl n ids ht (a1 - 1) (a2 - x3) σ12) mi_Md_323 v_Md_byteOf ⟨_, _, rfl⟩ ht ⟨Nat.le_of_ble_eq_true rfl, Nat.le_of_ble_eq_true rfl⟩ (Nat.le_of_ble_eq_true rfl) ⟨Nat.le_of_ble_eq_true rfl, Nat.le_of_ble_eq_true rfl⟩ ⟨rfl, rfl⟩ rfl d_Md_guess_96 (fun x21 σ22 => ?_)
          exact kw_wk (hk13 x21 σ22) ⟨Or.inl rfl, Or.inr rfl, Or.inl rfl, Or.inl rfl, Or.inl rfl, Or.inl rfl, Or.inr rfl, Or.inr rfl, Or.inl rfl, trivial⟩
        · refine kw_iconst (v := 0) C d_Md_guess_84 (by decide) ?_
          refine kw_goto (tgt := 99) C d_Md_guess_85 (by decide) ?_
          exact kw_wk (hk13 0 σ12) ⟨Or.inl rfl, Or.inr rfl, Or.inl rfl, Or.inl rfl, Or.inl rfl, Or.inl rfl, Or.inr rfl, Or.inr rfl, Or.inl rfl, trivial⟩
    · refine kw_if_eq (tgt := 69) C d_Md_guess_62 (by decide) ?_ ?_
      · refine kw_aload_n C d_Md_guess_69 rfl ?_
        refine kw_iload_n C d_Md_guess_70 rfl ?_
        refine kw_iconst (v := 1) C d_Md_guess_71 (by decide) ?_
        refine kw_isub C d_Md_guess_72 ?_
        refine kw_iload_n C d_Md_guess_73 rfl ?_
        refine kw_callVi (cl' := 0) (sl' := 0) (As := [.int (a1 - 1), .int a2]) C (c_Md_byteOf hl n ids ht (a1 - 1) a2 σ9) mi_Md_323 v_Md_byteOf ⟨_, _, rfl⟩ ht ⟨Nat.le_of_ble_eq_true rfl, Nat.le_of_ble_eq_true rfl⟩ (Nat.le_of_ble_eq_true rfl) ⟨Nat.le_of_ble_eq_true rfl, Nat.le_of_ble_eq_true rfl⟩ ⟨rfl, rfl⟩ rfl d_Md_guess_74 (fun x23 σ24 => ?_)
        exact kw_wk (hk10 x23 σ24) ⟨Or.inr rfl, Or.inr rfl, Or.inr rfl, Or.inr rfl, Or.inr rfl, Or.inr rfl, Or.inr rfl, Or.inl rfl, Or.inl rfl, trivial⟩
      · refine kw_iconst (v := 0) C d_Md_guess_65 (by decide) ?_
        refine kw_goto (tgt := 77) C d_Md_guess_66 (by decide) ?_
        exact kw_wk (hk10 0 σ9) ⟨Or.inr rfl, Or.inr rfl, Or.inr rfl, Or.inr rfl, Or.inr rfl, Or.inr rfl, Or.inr rfl, Or.inl rfl, Or.inl rfl, trivial⟩
  · refine kw_j (α := Unit) (pcj := 42) (Lj := fun x26 => [some (.ref t), some (.int a0), some (.int a1), some (.int a2), some (.int x3), none, none, none, none]) (stj := fun x26 => []) (fun x26 σ27 => ?_) (fun k25 hk25 => ?_)
    · refine kw_iconst (v := 1) C d_Md_guess_42 (by decide) ?_
      refine kw_goto (tgt := 47) C d_Md_guess_43 (by decide) ?_
      exact kw_wk (hk5 1 σ27) ⟨Or.inr rfl, Or.inr rfl, Or.inr rfl, Or.inr rfl, Or.inr rfl, Or.inl rfl, Or.inl rfl, Or.inl rfl, Or.inl rfl, trivial⟩
    · refine kw_if_eq (tgt := 42) C d_Md_guess_22 (by decide) ?_ ?_
      · exact kw_wk (hk25 () σ4) ⟨Or.inr rfl, Or.inr rfl, Or.inr rfl, Or.inr rfl, Or.inr rfl, Or.inl rfl, Or.inl rfl, Or.inl rfl, Or.inl rfl, trivial⟩
      · refine kw_aload_n C d_Md_guess_25 rfl ?_
        refine kw_getR C fi_Md_43 rfl rfl ht d_Md_guess_26 (fun o28 ho28 => ?_)
        refine kw_iload_n C d_Md_guess_29 rfl ?_
        refine kw_iconst (v := 1) C d_Md_guess_30 (by decide) ?_
        refine kw_isub C d_Md_guess_31 ?_
        refine kw_leti (fun x29 => ?_)
        refine kw_iald C (Or.inl ⟨ho28.1, ho28.2.1⟩) d_Md_guess_32 ?_
        refine kw_aload_n C d_Md_guess_33 rfl ?_
        refine kw_getR C fi_Md_43 rfl rfl ht d_Md_guess_34 (fun o30 ho30 => ?_)
        refine kw_iload_n C d_Md_guess_37 rfl ?_
        refine kw_iald C (Or.inl ⟨ho30.1, ho30.2.1⟩) d_Md_guess_38 ?_
        refine kw_icmp_eq (tgt := 46) C d_Md_guess_39 (by decide) ?_ ?_
        · refine kw_iconst (v := 0) C d_Md_guess_46 (by decide) ?_
          exact kw_wk (hk5 0 σ4) ⟨Or.inr rfl, Or.inr rfl, Or.inr rfl, Or.inr rfl, Or.inr rfl, Or.inl rfl, Or.inl rfl, Or.inl rfl, Or.inl rfl, trivial⟩
        · exact kw_wk (hk25 () σ4) ⟨Or.inr rfl, Or.inr rfl, Or.inr rfl, Or.inr rfl, Or.inr rfl, Or.inl rfl, Or.inl rfl, Or.inl rfl, Or.inl rfl, trivial⟩
/-! Md_isPlain -/
def rm_Md_isPlain : Room := { frames := 3, cells := 0, slots := 0, locals := 74 }
def F_Md_isPlain (n : Nat) (t : Nat) (σ : Mm) : Option (Int32 × Mm) :=
kf_l (α := Int32) n (fun k1 x2 σ3 =>
if (gS σ3 (64 * t + 38)) ≤ x2 then (
kf_l (α := Int32) n (fun k4 x5 σ6 =>
if (gS σ6 (64 * t + 38)) ≤ x5 then (
kf_z 1 (some (1, σ6))) else (
kf_l (α := Int32) n (fun k7 x8 σ9 =>
Option.bind (gR σ9 (64 * t + 36)) fun o10 =>
kf_in x5 (mm_kd o10).2.2 <|
if (gB σ9 o10 x5.toNatClampNeg) ≤ x8 then (
kf_let (x5 + Int32.ofInt 1) fun x11 =>
k4 x11 σ9) else (
Option.bind (gR σ9 (64 * t + 35)) fun o12 =>
kf_in x5 (mm_kd o12).2.2 <|
kf_let (((gB σ9 o12 x5.toNatClampNeg) + 1) + x8 : Int32) fun x13 =>
Option.bind (gR σ9 (64 * t + 30)) fun o14 =>
Option.bind (gR σ9 (64 * t + 30)) fun o15 =>
kf_in x13 (mm_kd o15).2.2 <|
Option.bind (gR σ9 (64 * t + 30)) fun o16 =>
Option.bind (gR σ9 (64 * t + 35)) fun o17 =>
kf_in x5 (mm_kd o17).2.2 <|
kf_let (gB σ9 o17 x5.toNatClampNeg : Int32) fun x18 =>
kf_in x18 (mm_kd o16).2.2 <|
kf_c2 (F_Md_guess n t (gB σ9 o16 x18.toNatClampNeg) x5 x8 σ9) fun x19 σ20 =>
kf_in x13 (mm_kd o14).2.2 <| kf_let (pB σ20 o14 x13.toNatClampNeg (vp_nar .byte (((gB σ9 o15 x13.toNatClampNeg) + x19).toInt8.toInt32))) fun σ21 =>
kf_let (x8 + Int32.ofInt 1) fun x22 =>
k7 x22 σ21)) 0 σ6)) 0 σ3) else (
Option.bind (gR σ3 (64 * t + 30)) fun o23 =>
Option.bind (gR σ3 (64 * t + 35)) fun o24 =>
kf_in x2 (mm_kd o24).2.2 <|
kf_let (gB σ3 o24 x2.toNatClampNeg : Int32) fun x25 =>
kf_in x25 (mm_kd o23).2.2 <|
if ((gB σ3 o23 x25.toNatClampNeg) &&& 255) ≤ 4 then (
kf_let (x2 + Int32.ofInt 1) fun x26 =>
k1 x26 σ3) else (
Option.bind (gR σ3 (64 * t + 35)) fun o27 =>
kf_in x2 (mm_kd o27).2.2 <|
kf_c2 (F_Md_flaw n t 30 (gB σ3 o27 x2.toNatClampNeg) σ3) fun x28 σ29 =>
kf_z x28 (some (x28, σ29))))) 0 σ
theorem d_Md_isPlain_0 : decode prog_14_method_60_code 0 = .ok (.iconst 0, 1) := by decide +kernel
theorem d_Md_isPlain_1 : decode prog_14_method_60_code 1 = .ok (.istore_n 1, 1) := by decide +kernel
theorem d_Md_isPlain_2 : decode prog_14_method_60_code 2 = .ok (.iload_n 1, 1) := by decide +kernel
theorem d_Md_isPlain_3 : decode prog_14_method_60_code 3 = .ok (.aload_n 0, 1) := by decide +kernel
theorem d_Md_isPlain_4 : decode prog_14_method_60_code 4 = .ok (.getfield 97, 3) := by decide +kernel
theorem d_Md_isPlain_7 : decode prog_14_method_60_code 7 = .ok (.if_icmp .ge 41, 3) := by decide +kernel
theorem d_Md_isPlain_10 : decode prog_14_method_60_code 10 = .ok (.aload_n 0, 1) := by decide +kernel
theorem d_Md_isPlain_11 : decode prog_14_method_60_code 11 = .ok (.getfield 40, 3) := by decide +kernel
theorem d_Md_isPlain_14 : decode prog_14_method_60_code 14 = .ok (.aload_n 0, 1) := by decide +kernel
theorem d_Md_isPlain_15 : decode prog_14_method_60_code 15 = .ok (.getfield 49, 3) := by decide +kernel
theorem d_Md_isPlain_18 : decode prog_14_method_60_code 18 = .ok (.iload_n 1, 1) := by decide +kernel
theorem d_Md_isPlain_19 : decode prog_14_method_60_code 19 = .ok (.iaload, 1) := by decide +kernel
theorem d_Md_isPlain_20 : decode prog_14_method_60_code 20 = .ok (.baload, 1) := by decide +kernel
theorem d_Md_isPlain_21 : decode prog_14_method_60_code 21 = .ok (.sipush 255, 3) := by decide +kernel
theorem d_Md_isPlain_24 : decode prog_14_method_60_code 24 = .ok (.iand, 1) := by decide +kernel
theorem d_Md_isPlain_25 : decode prog_14_method_60_code 25 = .ok (.iconst 4, 1) := by decide +kernel
theorem d_Md_isPlain_26 : decode prog_14_method_60_code 26 = .ok (.if_icmp .le 16, 3) := by decide +kernel
theorem d_Md_isPlain_29 : decode prog_14_method_60_code 29 = .ok (.aload_n 0, 1) := by decide +kernel
theorem d_Md_isPlain_30 : decode prog_14_method_60_code 30 = .ok (.bipush 30, 2) := by decide +kernel
theorem d_Md_isPlain_32 : decode prog_14_method_60_code 32 = .ok (.aload_n 0, 1) := by decide +kernel
theorem d_Md_isPlain_33 : decode prog_14_method_60_code 33 = .ok (.getfield 49, 3) := by decide +kernel
theorem d_Md_isPlain_36 : decode prog_14_method_60_code 36 = .ok (.iload_n 1, 1) := by decide +kernel
theorem d_Md_isPlain_37 : decode prog_14_method_60_code 37 = .ok (.iaload, 1) := by decide +kernel
theorem d_Md_isPlain_38 : decode prog_14_method_60_code 38 = .ok (.invokevirtual 122, 3) := by decide +kernel
theorem d_Md_isPlain_41 : decode prog_14_method_60_code 41 = .ok (.ireturn, 1) := by decide +kernel
theorem d_Md_isPlain_42 : decode prog_14_method_60_code 42 = .ok (.iinc 1 1, 3) := by decide +kernel
theorem d_Md_isPlain_45 : decode prog_14_method_60_code 45 = .ok (.goto (-43), 3) := by decide +kernel
theorem d_Md_isPlain_48 : decode prog_14_method_60_code 48 = .ok (.iconst 0, 1) := by decide +kernel
theorem d_Md_isPlain_49 : decode prog_14_method_60_code 49 = .ok (.istore_n 1, 1) := by decide +kernel
theorem d_Md_isPlain_50 : decode prog_14_method_60_code 50 = .ok (.iload_n 1, 1) := by decide +kernel
theorem d_Md_isPlain_51 : decode prog_14_method_60_code 51 = .ok (.aload_n 0, 1) := by decide +kernel
theorem d_Md_isPlain_52 : decode prog_14_method_60_code 52 = .ok (.getfield 97, 3) := by decide +kernel
theorem d_Md_isPlain_55 : decode prog_14_method_60_code 55 = .ok (.if_icmp .ge 69, 3) := by decide +kernel
theorem d_Md_isPlain_58 : decode prog_14_method_60_code 58 = .ok (.iconst 0, 1) := by decide +kernel
theorem d_Md_isPlain_59 : decode prog_14_method_60_code 59 = .ok (.istore_n 2, 1) := by decide +kernel
theorem d_Md_isPlain_60 : decode prog_14_method_60_code 60 = .ok (.iload_n 2, 1) := by decide +kernel
theorem d_Md_isPlain_61 : decode prog_14_method_60_code 61 = .ok (.aload_n 0, 1) := by decide +kernel
theorem d_Md_isPlain_62 : decode prog_14_method_60_code 62 = .ok (.getfield 52, 3) := by decide +kernel
theorem d_Md_isPlain_65 : decode prog_14_method_60_code 65 = .ok (.iload_n 1, 1) := by decide +kernel
theorem d_Md_isPlain_66 : decode prog_14_method_60_code 66 = .ok (.iaload, 1) := by decide +kernel
theorem d_Md_isPlain_67 : decode prog_14_method_60_code 67 = .ok (.if_icmp .ge 51, 3) := by decide +kernel
theorem d_Md_isPlain_70 : decode prog_14_method_60_code 70 = .ok (.aload_n 0, 1) := by decide +kernel
theorem d_Md_isPlain_71 : decode prog_14_method_60_code 71 = .ok (.getfield 49, 3) := by decide +kernel
theorem d_Md_isPlain_74 : decode prog_14_method_60_code 74 = .ok (.iload_n 1, 1) := by decide +kernel
theorem d_Md_isPlain_75 : decode prog_14_method_60_code 75 = .ok (.iaload, 1) := by decide +kernel
theorem d_Md_isPlain_76 : decode prog_14_method_60_code 76 = .ok (.iconst 1, 1) := by decide +kernel
theorem d_Md_isPlain_77 : decode prog_14_method_60_code 77 = .ok (.iadd, 1) := by decide +kernel
theorem d_Md_isPlain_78 : decode prog_14_method_60_code 78 = .ok (.iload_n 2, 1) := by decide +kernel
theorem d_Md_isPlain_79 : decode prog_14_method_60_code 79 = .ok (.iadd, 1) := by decide +kernel
theorem d_Md_isPlain_80 : decode prog_14_method_60_code 80 = .ok (.istore_n 3, 1) := by decide +kernel
theorem d_Md_isPlain_81 : decode prog_14_method_60_code 81 = .ok (.aload_n 0, 1) := by decide +kernel
theorem d_Md_isPlain_82 : decode prog_14_method_60_code 82 = .ok (.getfield 40, 3) := by decide +kernel
theorem d_Md_isPlain_85 : decode prog_14_method_60_code 85 = .ok (.iload_n 3, 1) := by decide +kernel
theorem d_Md_isPlain_86 : decode prog_14_method_60_code 86 = .ok (.aload_n 0, 1) := by decide +kernel
theorem d_Md_isPlain_87 : decode prog_14_method_60_code 87 = .ok (.getfield 40, 3) := by decide +kernel
theorem d_Md_isPlain_90 : decode prog_14_method_60_code 90 = .ok (.iload_n 3, 1) := by decide +kernel
theorem d_Md_isPlain_91 : decode prog_14_method_60_code 91 = .ok (.baload, 1) := by decide +kernel
theorem d_Md_isPlain_92 : decode prog_14_method_60_code 92 = .ok (.aload_n 0, 1) := by decide +kernel
theorem d_Md_isPlain_93 : decode prog_14_method_60_code 93 = .ok (.aload_n 0, 1) := by decide +kernel
theorem d_Md_isPlain_94 : decode prog_14_method_60_code 94 = .ok (.getfield 40, 3) := by decide +kernel
theorem d_Md_isPlain_97 : decode prog_14_method_60_code 97 = .ok (.aload_n 0, 1) := by decide +kernel
theorem d_Md_isPlain_98 : decode prog_14_method_60_code 98 = .ok (.getfield 49, 3) := by decide +kernel
theorem d_Md_isPlain_101 : decode prog_14_method_60_code 101 = .ok (.iload_n 1, 1) := by decide +kernel
theorem d_Md_isPlain_102 : decode prog_14_method_60_code 102 = .ok (.iaload, 1) := by decide +kernel
theorem d_Md_isPlain_103 : decode prog_14_method_60_code 103 = .ok (.baload, 1) := by decide +kernel
theorem d_Md_isPlain_104 : decode prog_14_method_60_code 104 = .ok (.iload_n 1, 1) := by decide +kernel
theorem d_Md_isPlain_105 : decode prog_14_method_60_code 105 = .ok (.iload_n 2, 1) := by decide +kernel
theorem d_Md_isPlain_106 : decode prog_14_method_60_code 106 = .ok (.invokevirtual 329, 3) := by decide +kernel
theorem d_Md_isPlain_109 : decode prog_14_method_60_code 109 = .ok (.iadd, 1) := by decide +kernel
theorem d_Md_isPlain_110 : decode prog_14_method_60_code 110 = .ok (.i2b, 1) := by decide +kernel
theorem d_Md_isPlain_111 : decode prog_14_method_60_code 111 = .ok (.bastore, 1) := by decide +kernel
theorem d_Md_isPlain_112 : decode prog_14_method_60_code 112 = .ok (.iinc 2 1, 3) := by decide +kernel
theorem d_Md_isPlain_115 : decode prog_14_method_60_code 115 = .ok (.goto (-55), 3) := by decide +kernel
theorem d_Md_isPlain_118 : decode prog_14_method_60_code 118 = .ok (.iinc 1 1, 3) := by decide +kernel
theorem d_Md_isPlain_121 : decode prog_14_method_60_code 121 = .ok (.goto (-71), 3) := by decide +kernel
theorem d_Md_isPlain_124 : decode prog_14_method_60_code 124 = .ok (.iconst 1, 1) := by decide +kernel
theorem d_Md_isPlain_125 : decode prog_14_method_60_code 125 = .ok (.ireturn, 1) := by decide +kernel
set_option maxRecDepth 100000 in
set_option maxHeartbeats 4000000 in
theorem c_Md_isPlain {l0 : Launch} (hl : l0.stackTraces = false) (n : Nat) (ids : List Nat) {t : Nat} (ht : mm_ok ids t 1 12)  (σ : Mm) : kw_C l0 y_Md_isPlain (Cond.code y_Md_isPlain prog_14_method_60_code 4 (some .boolean) :: kw_Ts) rm_Md_isPlain kw_oi ids [] [.ref t] σ (F_Md_isPlain n t σ) := by
  refine kw_start (L0 := [some (.ref t), none, none, none]) hl (by decide +kernel) (Nat.le_of_ble_eq_true rfl) rfl (fun Γ ad C Ce => ?_)
  unfold F_Md_isPlain
  refine kw_iconst (v := 0) C d_Md_isPlain_0 (by decide) ?_
  refine kw_istore_n (L' := [some (.ref t), some (.int 0), none, none]) C d_Md_isPlain_1 (by decide) rfl ?_
  refine kw_wk (kw_l (α := Int32) (pc := 2) (Lj := fun x2 => [some (.ref t), some (.int x2), none, none]) (stj := fun x2 => []) (fun k1 hk1 x2 σ3 => ?_) n 0 σ) ⟨Or.inr rfl, Or.inr rfl, Or.inl rfl, Or.inl rfl, trivial⟩
  refine kw_iload_n C d_Md_isPlain_2 rfl ?_
  refine kw_aload_n C d_Md_isPlain_3 rfl ?_
  refine kw_getI C fi_Md_97 (Or.inl rfl) ht d_Md_isPlain_4 ?_
  refine kw_icmp_ge (tgt := 48) C d_Md_isPlain_7 (by decide) ?_ ?_
  · refine kw_iconst (v := 0) C d_Md_isPlain_48 (by decide) ?_
    refine kw_istore_n (L' := [some (.ref t), some (.int 0), none, none]) C d_Md_isPlain_49 (by decide) rfl ?_
    refine kw_wk (kw_l (α := Int32) (pc := 50) (Lj := fun x5 => [some (.ref t), some (.int x5), none, none]) (stj := fun x5 => []) (fun k4 hk4 x5 σ6 => ?_) n 0 σ3) ⟨Or.inr rfl, Or.inr rfl, Or.inl rfl, Or.inl rfl, trivial⟩
    refine kw_iload_n C d_Md_isPlain_50 rfl ?_
    refine kw_aload_n C d_Md_isPlain_51 rfl ?_
    refine kw_getI C fi_Md_97 (Or.inl rfl) ht d_Md_isPlain_52 ?_
    refine kw_icmp_ge (tgt := 124) C d_Md_isPlain_55 (by decide) ?_ ?_
    · refine kw_iconst (v := 1) C d_Md_isPlain_124 (by decide) ?_
      exact kw_zret C Ce rfl (by simp) (fun _ _ => rfl) (Nat.le_of_ble_eq_true rfl) (Nat.le_of_ble_eq_true rfl) rfl d_Md_isPlain_125
    · refine kw_iconst (v := 0) C d_Md_isPlain_58 (by decide) ?_
      refine kw_istore_n (L' := [some (.ref t), some (.int x5), some (.int 0), none]) C d_Md_isPlain_59 (by decide) rfl ?_
      refine kw_wk (kw_l (α := Int32) (pc := 60) (Lj := fun x8 => [some (.ref t), some (.int x5), some (.int x8), none]) (stj := fun x8 => []) (fun k7 hk7 x8 σ9 => ?_) n 0 σ6) ⟨Or.inr rfl, Or.inr rfl, Or.inr rfl, Or.inl rfl, trivial⟩
      refine kw_iload_n C d_Md_isPlain_60 rfl ?_
      refine kw_aload_n C d_Md_isPlain_61 rfl ?_
      refine kw_getR C fi_Md_52 rfl rfl ht d_Md_isPlain_62 (fun o10 ho10 => ?_)
      refine kw_iload_n C d_Md_isPlain_65 rfl ?_
      refine kw_iald C (Or.inl ⟨ho10.1, ho10.2.1⟩) d_Md_isPlain_66 ?_
      refine kw_icmp_ge (tgt := 118) C d_Md_isPlain_67 (by decide) ?_ ?_
      · refine kw_iincL (L2 := fun x11 => [some (.ref t), some (.int x11), some (.int x8), none]) C d_Md_isPlain_118 (by decide) rfl (fun _ => rfl) (fun x11 => ?_)
        refine kw_goto (tgt := 50) C d_Md_isPlain_121 (by decide) ?_
        exact kw_wk (hk4 x11 σ9) ⟨Or.inr rfl, Or.inr rfl, Or.inl rfl, Or.inl rfl, trivial⟩
      · refine kw_aload_n C d_Md_isPlain_70 rfl ?_
        refine kw_getR C fi_Md_49 rfl rfl ht d_Md_isPlain_71 (fun o12 ho12 => ?_)
        refine kw_iload_n C d_Md_isPlain_74 rfl ?_
        refine kw_iald C (Or.inl ⟨ho12.1, ho12.2.1⟩) d_Md_isPlain_75 ?_
        refine kw_iconst (v := 1) C d_Md_isPlain_76 (by decide) ?_
        refine kw_iadd C d_Md_isPlain_77 ?_
        refine kw_iload_n C d_Md_isPlain_78 rfl ?_
        refine kw_iadd C d_Md_isPlain_79 ?_
        refine kw_leti (fun x13 => ?_)
        refine kw_istore_n (L' := [some (.ref t), some (.int x5), some (.int x8), some (.int x13)]) C d_Md_isPlain_80 (by decide) rfl ?_
        refine kw_aload_n C d_Md_isPlain_81 rfl ?_
        refine kw_getR C fi_Md_40 rfl rfl ht d_Md_isPlain_82 (fun o14 ho14 => ?_)
        refine kw_iload_n C d_Md_isPlain_85 rfl ?_
        refine kw_aload_n C d_Md_isPlain_86 rfl ?_
        refine kw_getR C fi_Md_40 rfl rfl ht d_Md_isPlain_87 (fun o15 ho15 => ?_)
        refine kw_iload_n C d_Md_isPlain_90 rfl ?_
        refine kw_bald C ho15 d_Md_isPlain_91 ?_
        refine kw_aload_n C d_Md_isPlain_92 rfl ?_
        refine kw_aload_n C d_Md_isPlain_93 rfl ?_
        refine kw_getR C fi_Md_40 rfl rfl ht d_Md_isPlain_94 (fun o16 ho16 => ?_)
        refine kw_aload_n C d_Md_isPlain_97 rfl ?_
        refine kw_getR C fi_Md_49 rfl rfl ht d_Md_isPlain_98 (fun o17 ho17 => ?_)
        refine kw_iload_n C d_Md_isPlain_101 rfl ?_
        refine kw_iald C (Or.inl ⟨ho17.1, ho17.2.1⟩) d_Md_isPlain_102 ?_
        refine kw_leti (fun x18 => ?_)
        refine kw_bald C ho16 d_Md_isPlain_103 ?_
        refine kw_iload_n C d_Md_isPlain_104 rfl ?_
        refine kw_iload_n C d_Md_isPlain_105 rfl ?_
        refine kw_callVi (cl' := 0) (sl' := 0) (As := [.int (gB σ9 o16 x18.toNatClampNeg), .int x5, .int x8]) C (c_Md_guess hl n ids ht (gB σ9 o16 x18.toNatClampNeg) x5 x8 σ9) mi_Md_329 v_Md_guess ⟨_, _, rfl⟩ ht ⟨Nat.le_of_ble_eq_true rfl, Nat.le_of_ble_eq_true rfl⟩ (Nat.le_of_ble_eq_true rfl) ⟨Nat.le_of_ble_eq_true rfl, Nat.le_of_ble_eq_true rfl⟩ ⟨rfl, rfl⟩ rfl d_Md_isPlain_106 (fun x19 σ20 => ?_)
        refine kw_iadd C d_Md_isPlain_109 ?_
        refine kw_i2b C d_Md_isPlain_110 ?_
        refine kw_bast C ho14 d_Md_isPlain_111 (fun σ21 => ?_)
        refine kw_iincL (L2 := fun x22 => [some (.ref t), some (.int x5), some (.int x22), some (.int x13)]) C d_Md_isPlain_112 (by decide) rfl (fun _ => rfl) (fun x22 => ?_)
        refine kw_goto (tgt := 60) C d_Md_isPlain_115 (by decide) ?_
        exact kw_wk (hk7 x22 σ21) ⟨Or.inr rfl, Or.inr rfl, Or.inr rfl, Or.inl rfl, trivial⟩
  · refine kw_aload_n C d_Md_isPlain_10 rfl ?_
    refine kw_getR C fi_Md_40 rfl rfl ht d_Md_isPlain_11 (fun o23 ho23 => ?_)
    refine kw_aload_n C d_Md_isPlain_14 rfl ?_
    refine kw_getR C fi_Md_49 rfl rfl ht d_Md_isPlain_15 (fun o24 ho24 => ?_)
    refine kw_iload_n C d_Md_isPlain_18 rfl ?_
    refine kw_iald C (Or.inl ⟨ho24.1, ho24.2.1⟩) d_Md_isPlain_19 ?_
    refine kw_leti (fun x25 => ?_)
    refine kw_bald C ho23 d_Md_isPlain_20 ?_
    refine kw_sipush (v := 255) C d_Md_isPlain_21 (by decide) ?_
    refine kw_iand C d_Md_isPlain_24 ?_
    refine kw_iconst (v := 4) C d_Md_isPlain_25 (by decide) ?_
    refine kw_icmp_le (tgt := 42) C d_Md_isPlain_26 (by decide) ?_ ?_
    · refine kw_iincL (L2 := fun x26 => [some (.ref t), some (.int x26), none, none]) C d_Md_isPlain_42 (by decide) rfl (fun _ => rfl) (fun x26 => ?_)
      refine kw_goto (tgt := 2) C d_Md_isPlain_45 (by decide) ?_
      exact kw_wk (hk1 x26 σ3) ⟨Or.inr rfl, Or.inr rfl, Or.inl rfl, Or.inl rfl, trivial⟩
    · refine kw_aload_n C d_Md_isPlain_29 rfl ?_
      refine kw_bipush (v := 30) C d_Md_isPlain_30 (by decide) ?_
      refine kw_aload_n C d_Md_isPlain_32 rfl ?_
      refine kw_getR C fi_Md_49 rfl rfl ht d_Md_isPlain_33 (fun o27 ho27 => ?_)
      refine kw_iload_n C d_Md_isPlain_36 rfl ?_
      refine kw_iald C (Or.inl ⟨ho27.1, ho27.2.1⟩) d_Md_isPlain_37 ?_
      refine kw_callVi (cl' := 0) (sl' := 0) (As := [.int 30, .int (gB σ3 o27 x2.toNatClampNeg)]) C (c_Md_flaw hl n ids ht 30 (gB σ3 o27 x2.toNatClampNeg) σ3) mi_Md_122 v_Md_flaw ⟨_, _, rfl⟩ ht ⟨Nat.le_of_ble_eq_true rfl, Nat.le_of_ble_eq_true rfl⟩ (Nat.le_of_ble_eq_true rfl) ⟨Nat.le_of_ble_eq_true rfl, Nat.le_of_ble_eq_true rfl⟩ ⟨rfl, rfl⟩ rfl d_Md_isPlain_38 (fun x28 σ29 => ?_)
      exact kw_zret C Ce rfl (by simp) (fun _ _ => rfl) (Nat.le_of_ble_eq_true rfl) (Nat.le_of_ble_eq_true rfl) rfl d_Md_isPlain_41
/-! Md_sampleOf -/
def rm_Md_sampleOf : Room := { frames := 1, cells := 0, slots := 0, locals := 22 }
def F_Md_sampleOf (n : Nat) (t : Nat) (a0 : Int32) (a1 : Int32) (a2 : Int32) (σ : Mm) : Option (Int32 × Mm) :=
kf_c2 (F_Md_channels n (gS σ (64 * t + 52)) σ) fun x1 σ2 =>
kf_let (((a1 * x1) + a2) * (gS σ2 (64 * t + 53)) : Int32) fun x3 =>
kf_l (α := Int32 × Int32) n (fun k4 x5 σ6 =>
if (x3 + (gS σ6 (64 * t + 53))) ≤ x5.2 then (
some (x5.1, σ6)) else (
kf_nz 8 <|
kf_c2 (F_Md_byteOf n t a0 (x5.2 / 8) σ6) fun x7 σ8 =>
kf_nz 8 <|
kf_let (((2 : Int32) * x5.1) + ((x7 >>> (((7 : Int32) - (x5.2 - x5.2 / 8 * 8)) &&& 31)) &&& 1) : Int32) fun x9 =>
kf_let (x5.2 + Int32.ofInt 1) fun x10 =>
k4 (x9, x10) σ8)) (0, x3) σ2
theorem d_Md_sampleOf_0 : decode prog_14_method_61_code 0 = .ok (.iconst 0, 1) := by decide +kernel
theorem d_Md_sampleOf_1 : decode prog_14_method_61_code 1 = .ok (.istore 4, 2) := by decide +kernel
theorem d_Md_sampleOf_3 : decode prog_14_method_61_code 3 = .ok (.iload_n 2, 1) := by decide +kernel
theorem d_Md_sampleOf_4 : decode prog_14_method_61_code 4 = .ok (.aload_n 0, 1) := by decide +kernel
theorem d_Md_sampleOf_5 : decode prog_14_method_61_code 5 = .ok (.getfield 317, 3) := by decide +kernel
theorem d_Md_sampleOf_8 : decode prog_14_method_61_code 8 = .ok (.invokestatic 119, 3) := by decide +kernel
theorem d_Md_sampleOf_11 : decode prog_14_method_61_code 11 = .ok (.imul, 1) := by decide +kernel
theorem d_Md_sampleOf_12 : decode prog_14_method_61_code 12 = .ok (.iload_n 3, 1) := by decide +kernel
theorem d_Md_sampleOf_13 : decode prog_14_method_61_code 13 = .ok (.iadd, 1) := by decide +kernel
theorem d_Md_sampleOf_14 : decode prog_14_method_61_code 14 = .ok (.aload_n 0, 1) := by decide +kernel
theorem d_Md_sampleOf_15 : decode prog_14_method_61_code 15 = .ok (.getfield 320, 3) := by decide +kernel
theorem d_Md_sampleOf_18 : decode prog_14_method_61_code 18 = .ok (.imul, 1) := by decide +kernel
theorem d_Md_sampleOf_19 : decode prog_14_method_61_code 19 = .ok (.istore 5, 2) := by decide +kernel
theorem d_Md_sampleOf_21 : decode prog_14_method_61_code 21 = .ok (.iload 5, 2) := by decide +kernel
theorem d_Md_sampleOf_23 : decode prog_14_method_61_code 23 = .ok (.istore 6, 2) := by decide +kernel
theorem d_Md_sampleOf_25 : decode prog_14_method_61_code 25 = .ok (.iload 6, 2) := by decide +kernel
theorem d_Md_sampleOf_27 : decode prog_14_method_61_code 27 = .ok (.iload 5, 2) := by decide +kernel
theorem d_Md_sampleOf_29 : decode prog_14_method_61_code 29 = .ok (.aload_n 0, 1) := by decide +kernel
theorem d_Md_sampleOf_30 : decode prog_14_method_61_code 30 = .ok (.getfield 320, 3) := by decide +kernel
theorem d_Md_sampleOf_33 : decode prog_14_method_61_code 33 = .ok (.iadd, 1) := by decide +kernel
theorem d_Md_sampleOf_34 : decode prog_14_method_61_code 34 = .ok (.if_icmp .ge 37, 3) := by decide +kernel
theorem d_Md_sampleOf_37 : decode prog_14_method_61_code 37 = .ok (.iconst 2, 1) := by decide +kernel
theorem d_Md_sampleOf_38 : decode prog_14_method_61_code 38 = .ok (.iload 4, 2) := by decide +kernel
theorem d_Md_sampleOf_40 : decode prog_14_method_61_code 40 = .ok (.imul, 1) := by decide +kernel
theorem d_Md_sampleOf_41 : decode prog_14_method_61_code 41 = .ok (.aload_n 0, 1) := by decide +kernel
theorem d_Md_sampleOf_42 : decode prog_14_method_61_code 42 = .ok (.iload_n 1, 1) := by decide +kernel
theorem d_Md_sampleOf_43 : decode prog_14_method_61_code 43 = .ok (.iload 6, 2) := by decide +kernel
theorem d_Md_sampleOf_45 : decode prog_14_method_61_code 45 = .ok (.bipush 8, 2) := by decide +kernel
theorem d_Md_sampleOf_47 : decode prog_14_method_61_code 47 = .ok (.idiv, 1) := by decide +kernel
theorem d_Md_sampleOf_48 : decode prog_14_method_61_code 48 = .ok (.invokevirtual 323, 3) := by decide +kernel
theorem d_Md_sampleOf_51 : decode prog_14_method_61_code 51 = .ok (.bipush 7, 2) := by decide +kernel
theorem d_Md_sampleOf_53 : decode prog_14_method_61_code 53 = .ok (.iload 6, 2) := by decide +kernel
theorem d_Md_sampleOf_55 : decode prog_14_method_61_code 55 = .ok (.bipush 8, 2) := by decide +kernel
theorem d_Md_sampleOf_57 : decode prog_14_method_61_code 57 = .ok (.irem, 1) := by decide +kernel
theorem d_Md_sampleOf_58 : decode prog_14_method_61_code 58 = .ok (.isub, 1) := by decide +kernel
theorem d_Md_sampleOf_59 : decode prog_14_method_61_code 59 = .ok (.ishr, 1) := by decide +kernel
theorem d_Md_sampleOf_60 : decode prog_14_method_61_code 60 = .ok (.iconst 1, 1) := by decide +kernel
theorem d_Md_sampleOf_61 : decode prog_14_method_61_code 61 = .ok (.iand, 1) := by decide +kernel
theorem d_Md_sampleOf_62 : decode prog_14_method_61_code 62 = .ok (.iadd, 1) := by decide +kernel
theorem d_Md_sampleOf_63 : decode prog_14_method_61_code 63 = .ok (.istore 4, 2) := by decide +kernel
theorem d_Md_sampleOf_65 : decode prog_14_method_61_code 65 = .ok (.iinc 6 1, 3) := by decide +kernel
theorem d_Md_sampleOf_68 : decode prog_14_method_61_code 68 = .ok (.goto (-43), 3) := by decide +kernel
theorem d_Md_sampleOf_71 : decode prog_14_method_61_code 71 = .ok (.iload 4, 2) := by decide +kernel
theorem d_Md_sampleOf_73 : decode prog_14_method_61_code 73 = .ok (.ireturn, 1) := by decide +kernel
set_option maxRecDepth 100000 in
set_option maxHeartbeats 4000000 in
theorem c_Md_sampleOf {l0 : Launch} (hl : l0.stackTraces = false) (n : Nat) (ids : List Nat) {t : Nat} (ht : mm_ok ids t 1 12) (a0 : Int32) (a1 : Int32) (a2 : Int32) (σ : Mm) : kw_C l0 y_Md_sampleOf (Cond.code y_Md_sampleOf prog_14_method_61_code 7 (some .int) :: kw_Ts) rm_Md_sampleOf kw_oi ids [] [.ref t, .int a0, .int a1, .int a2] σ (F_Md_sampleOf n t a0 a1 a2 σ) := by
  refine kw_start (L0 := [some (.ref t), some (.int a0), some (.int a1), some (.int a2), none, none, none]) hl (by decide +kernel) (Nat.le_of_ble_eq_true rfl) rfl (fun Γ ad C Ce => ?_)
  unfold F_Md_sampleOf
  refine kw_iconst (v := 0) C d_Md_sampleOf_0 (by decide) ?_
  refine kw_istore (L' := [some (.ref t), some (.int a0), some (.int a1), some (.int a2), some (.int 0), none, none]) C d_Md_sampleOf_1 (by decide) rfl ?_
  refine kw_iload_n C d_Md_sampleOf_3 rfl ?_
  refine kw_aload_n C d_Md_sampleOf_4 rfl ?_
  refine kw_getI C fi_Md_317 (Or.inl rfl) ht d_Md_sampleOf_5 ?_
  refine kw_callSi (cl' := 0) (sl' := 0) (As := [.int (gS σ (64 * t + 52))]) C (c_Md_channels hl n ids  (gS σ (64 * t + 52)) σ) mi_Md_119 s_Md_channels ⟨Nat.le_of_ble_eq_true rfl, Nat.le_of_ble_eq_true rfl⟩ (Nat.le_of_ble_eq_true rfl) ⟨Nat.le_of_ble_eq_true rfl, Nat.le_of_ble_eq_true rfl⟩ ⟨rfl, rfl⟩ rfl d_Md_sampleOf_8 (fun x1 σ2 => ?_)
  refine kw_imul C d_Md_sampleOf_11 ?_
  refine kw_iload_n C d_Md_sampleOf_12 rfl ?_
  refine kw_iadd C d_Md_sampleOf_13 ?_
  refine kw_aload_n C d_Md_sampleOf_14 rfl ?_
  refine kw_getI C fi_Md_320 (Or.inl rfl) ht d_Md_sampleOf_15 ?_
  refine kw_imul C d_Md_sampleOf_18 ?_
  refine kw_leti (fun x3 => ?_)
  refine kw_istore (L' := [some (.ref t), some (.int a0), some (.int a1), some (.int a2), some (.int 0), some (.int x3), none]) C d_Md_sampleOf_19 (by decide) rfl ?_
  refine kw_iload C d_Md_sampleOf_21 rfl ?_
  refine kw_istore (L' := [some (.ref t), some (.int a0), some (.int a1), some (.int a2), some (.int 0), some (.int x3), some (.int x3)]) C d_Md_sampleOf_23 (by decide) rfl ?_
  refine kw_wk (kw_l (α := Int32 × Int32) (pc := 25) (Lj := fun x5 => [some (.ref t), some (.int a0), none, none, some (.int x5.1), some (.int x3), some (.int x5.2)]) (stj := fun x5 => []) (fun k4 hk4 x5 σ6 => ?_) n (0, x3) σ2) ⟨Or.inr rfl, Or.inr rfl, Or.inl rfl, Or.inl rfl, Or.inr rfl, Or.inr rfl, Or.inr rfl, trivial⟩
  refine kw_iload C d_Md_sampleOf_25 rfl ?_
  refine kw_iload C d_Md_sampleOf_27 rfl ?_
  refine kw_aload_n C d_Md_sampleOf_29 rfl ?_
  refine kw_getI C fi_Md_320 (Or.inl rfl) ht d_Md_sampleOf_30 ?_
  refine kw_iadd C d_Md_sampleOf_33 ?_
  refine kw_icmp_ge (tgt := 71) C d_Md_sampleOf_34 (by decide) ?_ ?_
  · refine kw_iload C d_Md_sampleOf_71 rfl ?_
    exact kw_iret C Ce rfl (by simp) (fun _ _ => rfl) (Nat.le_of_ble_eq_true rfl) (Nat.le_of_ble_eq_true rfl) rfl d_Md_sampleOf_73
  · refine kw_iconst (v := 2) C d_Md_sampleOf_37 (by decide) ?_
    refine kw_iload C d_Md_sampleOf_38 rfl ?_
    refine kw_imul C d_Md_sampleOf_40 ?_
    refine kw_aload_n C d_Md_sampleOf_41 rfl ?_
    refine kw_iload_n C d_Md_sampleOf_42 rfl ?_
    refine kw_iload C d_Md_sampleOf_43 rfl ?_
    refine kw_bipush (v := 8) C d_Md_sampleOf_45 (by decide) ?_
    refine kw_idiv C d_Md_sampleOf_47 ?_
    refine kw_callVi (cl' := 0) (sl' := 0) (As := [.int a0, .int (x5.2 / 8)]) C (c_Md_byteOf hl n ids ht a0 (x5.2 / 8) σ6) mi_Md_323 v_Md_byteOf ⟨_, _, rfl⟩ ht ⟨Nat.le_of_ble_eq_true rfl, Nat.le_of_ble_eq_true rfl⟩ (Nat.le_of_ble_eq_true rfl) ⟨Nat.le_of_ble_eq_true rfl, Nat.le_of_ble_eq_true rfl⟩ ⟨rfl, rfl⟩ rfl d_Md_sampleOf_48 (fun x7 σ8 => ?_)
    refine kw_bipush (v := 7) C d_Md_sampleOf_51 (by decide) ?_
    refine kw_iload C d_Md_sampleOf_53 rfl ?_
    refine kw_bipush (v := 8) C d_Md_sampleOf_55 (by decide) ?_
    refine kw_irem C d_Md_sampleOf_57 ?_
    refine kw_isub C d_Md_sampleOf_58 ?_
    refine kw_ishr C d_Md_sampleOf_59 ?_
    refine kw_iconst (v := 1) C d_Md_sampleOf_60 (by decide) ?_
    refine kw_iand C d_Md_sampleOf_61 ?_
    refine kw_iadd C d_Md_sampleOf_62 ?_
    refine kw_leti (fun x9 => ?_)
    refine kw_istore (L' := [some (.ref t), some (.int a0), none, none, some (.int x9), some (.int x3), some (.int x5.2)]) C d_Md_sampleOf_63 (by decide) rfl ?_
    refine kw_iincL (L2 := fun x10 => [some (.ref t), some (.int a0), none, none, some (.int x9), some (.int x3), some (.int x10)]) C d_Md_sampleOf_65 (by decide) rfl (fun _ => rfl) (fun x10 => ?_)
    refine kw_goto (tgt := 25) C d_Md_sampleOf_68 (by decide) ?_
    exact kw_wk (hk4 (x9, x10) σ8) ⟨Or.inr rfl, Or.inr rfl, Or.inl rfl, Or.inl rfl, Or.inr rfl, Or.inr rfl, Or.inr rfl, trivial⟩
/-! Md_takeOver -/
def rm_Md_takeOver : Room := { frames := 1, cells := 0, slots := 0, locals := 20 }
def F_Md_takeOver (n : Nat) (t : Nat) (σ : Mm) : Option (Mm) :=
kf_z 1 <| kf_let (pS σ (64 * t + 5) 1) fun σ1 =>
kf_let (pS σ1 (64 * t + 6) (gS σ1 (64 * t + 16))) fun σ2 =>
kf_let (pS σ2 (64 * t + 7) (gS σ2 (64 * t + 17))) fun σ3 =>
kf_let (pS σ3 (64 * t + 8) (gS σ3 (64 * t + 18))) fun σ4 =>
kf_let (pS σ4 (64 * t + 9) (gS σ4 (64 * t + 19))) fun σ5 =>
kf_z (gS σ5 (64 * t + 20)) <| kf_let (pS σ5 (64 * t + 10) (gS σ5 (64 * t + 20))) fun σ6 =>
kf_l (α := Int32) n (fun k7 x8 σ9 =>
kf_c2 (F_Md_channels n (gS σ9 (64 * t + 8)) σ9) fun x10 σ11 =>
if (((gS σ9 (64 * t + 6)) * (gS σ9 (64 * t + 7))) * x10) ≤ x8 then (
kf_let (pS σ11 (64 * t + 13) (gS σ11 (64 * t + 23))) fun σ12 =>
kf_l (α := Int32) n (fun k13 x14 σ15 =>
if ((3 : Int32) * (gS σ15 (64 * t + 13))) ≤ x14 then (
kf_let (pS σ15 (64 * t + 15) (gS σ15 (64 * t + 25))) fun σ16 =>
kf_l (α := Int32) n (fun k17 x18 σ19 =>
if (gS σ19 (64 * t + 15)) ≤ x18 then (
some σ19) else (
Option.bind (gR σ19 (64 * t + 14)) fun o20 =>
Option.bind (gR σ19 (64 * t + 24)) fun o21 =>
kf_in x18 (mm_kd o21).2.2 <|
kf_in x18 (mm_kd o20).2.2 <| kf_let (pB σ19 o20 x18.toNatClampNeg (gB σ19 o21 x18.toNatClampNeg)) fun σ22 =>
kf_let (x18 + Int32.ofInt 1) fun x23 =>
k17 x23 σ22)) 0 σ16) else (
Option.bind (gR σ15 (64 * t + 12)) fun o24 =>
Option.bind (gR σ15 (64 * t + 22)) fun o25 =>
kf_in x14 (mm_kd o25).2.2 <|
kf_in x14 (mm_kd o24).2.2 <| kf_let (pB σ15 o24 x14.toNatClampNeg (gB σ15 o25 x14.toNatClampNeg)) fun σ26 =>
kf_let (x14 + Int32.ofInt 1) fun x27 =>
k13 x27 σ26)) 0 σ12) else (
Option.bind (gR σ11 (64 * t + 11)) fun o28 =>
Option.bind (gR σ11 (64 * t + 21)) fun o29 =>
kf_in x8 (mm_kd o29).2.2 <|
kf_in x8 (mm_kd o28).2.2 <| kf_let (pB σ11 o28 x8.toNatClampNeg (gB σ11 o29 x8.toNatClampNeg)) fun σ30 =>
kf_let (x8 + Int32.ofInt 1) fun x31 =>
k7 x31 σ30)) 0 σ6
theorem d_Md_takeOver_0 : decode prog_14_method_63_code 0 = .ok (.aload_n 0, 1) := by decide +kernel
theorem d_Md_takeOver_1 : decode prog_14_method_63_code 1 = .ok (.iconst 1, 1) := by decide +kernel
theorem d_Md_takeOver_2 : decode prog_14_method_63_code 2 = .ok (.putfield 354, 3) := by decide +kernel
theorem d_Md_takeOver_5 : decode prog_14_method_63_code 5 = .ok (.aload_n 0, 1) := by decide +kernel
theorem d_Md_takeOver_6 : decode prog_14_method_63_code 6 = .ok (.aload_n 0, 1) := by decide +kernel
theorem d_Md_takeOver_7 : decode prog_14_method_63_code 7 = .ok (.getfield 187, 3) := by decide +kernel
theorem d_Md_takeOver_10 : decode prog_14_method_63_code 10 = .ok (.putfield 357, 3) := by decide +kernel
theorem d_Md_takeOver_13 : decode prog_14_method_63_code 13 = .ok (.aload_n 0, 1) := by decide +kernel
theorem d_Md_takeOver_14 : decode prog_14_method_63_code 14 = .ok (.aload_n 0, 1) := by decide +kernel
theorem d_Md_takeOver_15 : decode prog_14_method_63_code 15 = .ok (.getfield 190, 3) := by decide +kernel
theorem d_Md_takeOver_18 : decode prog_14_method_63_code 18 = .ok (.putfield 360, 3) := by decide +kernel
theorem d_Md_takeOver_21 : decode prog_14_method_63_code 21 = .ok (.aload_n 0, 1) := by decide +kernel
theorem d_Md_takeOver_22 : decode prog_14_method_63_code 22 = .ok (.aload_n 0, 1) := by decide +kernel
theorem d_Md_takeOver_23 : decode prog_14_method_63_code 23 = .ok (.getfield 170, 3) := by decide +kernel
theorem d_Md_takeOver_26 : decode prog_14_method_63_code 26 = .ok (.putfield 363, 3) := by decide +kernel
theorem d_Md_takeOver_29 : decode prog_14_method_63_code 29 = .ok (.aload_n 0, 1) := by decide +kernel
theorem d_Md_takeOver_30 : decode prog_14_method_63_code 30 = .ok (.aload_n 0, 1) := by decide +kernel
theorem d_Md_takeOver_31 : decode prog_14_method_63_code 31 = .ok (.getfield 179, 3) := by decide +kernel
theorem d_Md_takeOver_34 : decode prog_14_method_63_code 34 = .ok (.putfield 366, 3) := by decide +kernel
theorem d_Md_takeOver_37 : decode prog_14_method_63_code 37 = .ok (.aload_n 0, 1) := by decide +kernel
theorem d_Md_takeOver_38 : decode prog_14_method_63_code 38 = .ok (.aload_n 0, 1) := by decide +kernel
theorem d_Md_takeOver_39 : decode prog_14_method_63_code 39 = .ok (.getfield 196, 3) := by decide +kernel
theorem d_Md_takeOver_42 : decode prog_14_method_63_code 42 = .ok (.putfield 369, 3) := by decide +kernel
theorem d_Md_takeOver_45 : decode prog_14_method_63_code 45 = .ok (.iconst 0, 1) := by decide +kernel
theorem d_Md_takeOver_46 : decode prog_14_method_63_code 46 = .ok (.istore_n 1, 1) := by decide +kernel
theorem d_Md_takeOver_47 : decode prog_14_method_63_code 47 = .ok (.iload_n 1, 1) := by decide +kernel
theorem d_Md_takeOver_48 : decode prog_14_method_63_code 48 = .ok (.aload_n 0, 1) := by decide +kernel
theorem d_Md_takeOver_49 : decode prog_14_method_63_code 49 = .ok (.getfield 357, 3) := by decide +kernel
theorem d_Md_takeOver_52 : decode prog_14_method_63_code 52 = .ok (.aload_n 0, 1) := by decide +kernel
theorem d_Md_takeOver_53 : decode prog_14_method_63_code 53 = .ok (.getfield 360, 3) := by decide +kernel
theorem d_Md_takeOver_56 : decode prog_14_method_63_code 56 = .ok (.imul, 1) := by decide +kernel
theorem d_Md_takeOver_57 : decode prog_14_method_63_code 57 = .ok (.aload_n 0, 1) := by decide +kernel
theorem d_Md_takeOver_58 : decode prog_14_method_63_code 58 = .ok (.getfield 363, 3) := by decide +kernel
theorem d_Md_takeOver_61 : decode prog_14_method_63_code 61 = .ok (.invokestatic 119, 3) := by decide +kernel
theorem d_Md_takeOver_64 : decode prog_14_method_63_code 64 = .ok (.imul, 1) := by decide +kernel
theorem d_Md_takeOver_65 : decode prog_14_method_63_code 65 = .ok (.if_icmp .ge 21, 3) := by decide +kernel
theorem d_Md_takeOver_68 : decode prog_14_method_63_code 68 = .ok (.aload_n 0, 1) := by decide +kernel
theorem d_Md_takeOver_69 : decode prog_14_method_63_code 69 = .ok (.getfield 14, 3) := by decide +kernel
theorem d_Md_takeOver_72 : decode prog_14_method_63_code 72 = .ok (.iload_n 1, 1) := by decide +kernel
theorem d_Md_takeOver_73 : decode prog_14_method_63_code 73 = .ok (.aload_n 0, 1) := by decide +kernel
theorem d_Md_takeOver_74 : decode prog_14_method_63_code 74 = .ok (.getfield 24, 3) := by decide +kernel
theorem d_Md_takeOver_77 : decode prog_14_method_63_code 77 = .ok (.iload_n 1, 1) := by decide +kernel
theorem d_Md_takeOver_78 : decode prog_14_method_63_code 78 = .ok (.iaload, 1) := by decide +kernel
theorem d_Md_takeOver_79 : decode prog_14_method_63_code 79 = .ok (.iastore, 1) := by decide +kernel
theorem d_Md_takeOver_80 : decode prog_14_method_63_code 80 = .ok (.iinc 1 1, 3) := by decide +kernel
theorem d_Md_takeOver_83 : decode prog_14_method_63_code 83 = .ok (.goto (-36), 3) := by decide +kernel
theorem d_Md_takeOver_86 : decode prog_14_method_63_code 86 = .ok (.aload_n 0, 1) := by decide +kernel
theorem d_Md_takeOver_87 : decode prog_14_method_63_code 87 = .ok (.aload_n 0, 1) := by decide +kernel
theorem d_Md_takeOver_88 : decode prog_14_method_63_code 88 = .ok (.getfield 136, 3) := by decide +kernel
theorem d_Md_takeOver_91 : decode prog_14_method_63_code 91 = .ok (.putfield 372, 3) := by decide +kernel
theorem d_Md_takeOver_94 : decode prog_14_method_63_code 94 = .ok (.iconst 0, 1) := by decide +kernel
theorem d_Md_takeOver_95 : decode prog_14_method_63_code 95 = .ok (.istore_n 1, 1) := by decide +kernel
theorem d_Md_takeOver_96 : decode prog_14_method_63_code 96 = .ok (.iload_n 1, 1) := by decide +kernel
theorem d_Md_takeOver_97 : decode prog_14_method_63_code 97 = .ok (.iconst 3, 1) := by decide +kernel
theorem d_Md_takeOver_98 : decode prog_14_method_63_code 98 = .ok (.aload_n 0, 1) := by decide +kernel
theorem d_Md_takeOver_99 : decode prog_14_method_63_code 99 = .ok (.getfield 372, 3) := by decide +kernel
theorem d_Md_takeOver_102 : decode prog_14_method_63_code 102 = .ok (.imul, 1) := by decide +kernel
theorem d_Md_takeOver_103 : decode prog_14_method_63_code 103 = .ok (.if_icmp .ge 21, 3) := by decide +kernel
theorem d_Md_takeOver_106 : decode prog_14_method_63_code 106 = .ok (.aload_n 0, 1) := by decide +kernel
theorem d_Md_takeOver_107 : decode prog_14_method_63_code 107 = .ok (.getfield 18, 3) := by decide +kernel
theorem d_Md_takeOver_110 : decode prog_14_method_63_code 110 = .ok (.iload_n 1, 1) := by decide +kernel
theorem d_Md_takeOver_111 : decode prog_14_method_63_code 111 = .ok (.aload_n 0, 1) := by decide +kernel
theorem d_Md_takeOver_112 : decode prog_14_method_63_code 112 = .ok (.getfield 27, 3) := by decide +kernel
theorem d_Md_takeOver_115 : decode prog_14_method_63_code 115 = .ok (.iload_n 1, 1) := by decide +kernel
theorem d_Md_takeOver_116 : decode prog_14_method_63_code 116 = .ok (.iaload, 1) := by decide +kernel
theorem d_Md_takeOver_117 : decode prog_14_method_63_code 117 = .ok (.iastore, 1) := by decide +kernel
theorem d_Md_takeOver_118 : decode prog_14_method_63_code 118 = .ok (.iinc 1 1, 3) := by decide +kernel
theorem d_Md_takeOver_121 : decode prog_14_method_63_code 121 = .ok (.goto (-25), 3) := by decide +kernel
theorem d_Md_takeOver_124 : decode prog_14_method_63_code 124 = .ok (.aload_n 0, 1) := by decide +kernel
theorem d_Md_takeOver_125 : decode prog_14_method_63_code 125 = .ok (.aload_n 0, 1) := by decide +kernel
theorem d_Md_takeOver_126 : decode prog_14_method_63_code 126 = .ok (.getfield 139, 3) := by decide +kernel
theorem d_Md_takeOver_129 : decode prog_14_method_63_code 129 = .ok (.putfield 375, 3) := by decide +kernel
theorem d_Md_takeOver_132 : decode prog_14_method_63_code 132 = .ok (.iconst 0, 1) := by decide +kernel
theorem d_Md_takeOver_133 : decode prog_14_method_63_code 133 = .ok (.istore_n 1, 1) := by decide +kernel
theorem d_Md_takeOver_134 : decode prog_14_method_63_code 134 = .ok (.iload_n 1, 1) := by decide +kernel
theorem d_Md_takeOver_135 : decode prog_14_method_63_code 135 = .ok (.aload_n 0, 1) := by decide +kernel
theorem d_Md_takeOver_136 : decode prog_14_method_63_code 136 = .ok (.getfield 375, 3) := by decide +kernel
theorem d_Md_takeOver_139 : decode prog_14_method_63_code 139 = .ok (.if_icmp .ge 21, 3) := by decide +kernel
theorem d_Md_takeOver_142 : decode prog_14_method_63_code 142 = .ok (.aload_n 0, 1) := by decide +kernel
theorem d_Md_takeOver_143 : decode prog_14_method_63_code 143 = .ok (.getfield 21, 3) := by decide +kernel
theorem d_Md_takeOver_146 : decode prog_14_method_63_code 146 = .ok (.iload_n 1, 1) := by decide +kernel
theorem d_Md_takeOver_147 : decode prog_14_method_63_code 147 = .ok (.aload_n 0, 1) := by decide +kernel
theorem d_Md_takeOver_148 : decode prog_14_method_63_code 148 = .ok (.getfield 30, 3) := by decide +kernel
theorem d_Md_takeOver_151 : decode prog_14_method_63_code 151 = .ok (.iload_n 1, 1) := by decide +kernel
theorem d_Md_takeOver_152 : decode prog_14_method_63_code 152 = .ok (.iaload, 1) := by decide +kernel
theorem d_Md_takeOver_153 : decode prog_14_method_63_code 153 = .ok (.iastore, 1) := by decide +kernel
theorem d_Md_takeOver_154 : decode prog_14_method_63_code 154 = .ok (.iinc 1 1, 3) := by decide +kernel
theorem d_Md_takeOver_157 : decode prog_14_method_63_code 157 = .ok (.goto (-23), 3) := by decide +kernel
theorem d_Md_takeOver_160 : decode prog_14_method_63_code 160 = .ok (.return_, 1) := by decide +kernel
set_option maxRecDepth 100000 in
set_option maxHeartbeats 4000000 in
theorem c_Md_takeOver {l0 : Launch} (hl : l0.stackTraces = false) (n : Nat) (ids : List Nat) {t : Nat} (ht : mm_ok ids t 1 12)  (σ : Mm) : kw_C l0 y_Md_takeOver (Cond.code y_Md_takeOver prog_14_method_63_code 2 none :: kw_Ts) rm_Md_takeOver kw_ov ids [] [.ref t] σ (F_Md_takeOver n t σ) := by
  refine kw_start (L0 := [some (.ref t), none]) hl (by decide +kernel) (Nat.le_of_ble_eq_true rfl) rfl (fun Γ ad C Ce => ?_)
  unfold F_Md_takeOver
  refine kw_aload_n C d_Md_takeOver_0 rfl ?_
  refine kw_iconst (v := 1) C d_Md_takeOver_1 (by decide) ?_
  refine kw_putZ C fi_Md_354 rfl ht d_Md_takeOver_2 (fun σ1 => ?_)
  refine kw_aload_n C d_Md_takeOver_5 rfl ?_
  refine kw_aload_n C d_Md_takeOver_6 rfl ?_
  refine kw_getI C fi_Md_187 (Or.inl rfl) ht d_Md_takeOver_7 ?_
  refine kw_putI C fi_Md_357 rfl ht d_Md_takeOver_10 (fun σ2 => ?_)
  refine kw_aload_n C d_Md_takeOver_13 rfl ?_
  refine kw_aload_n C d_Md_takeOver_14 rfl ?_
  refine kw_getI C fi_Md_190 (Or.inl rfl) ht d_Md_takeOver_15 ?_
  refine kw_putI C fi_Md_360 rfl ht d_Md_takeOver_18 (fun σ3 => ?_)
  refine kw_aload_n C d_Md_takeOver_21 rfl ?_
  refine kw_aload_n C d_Md_takeOver_22 rfl ?_
  refine kw_getI C fi_Md_170 (Or.inl rfl) ht d_Md_takeOver_23 ?_
  refine kw_putI C fi_Md_363 rfl ht d_Md_takeOver_26 (fun σ4 => ?_)
  refine kw_aload_n C d_Md_takeOver_29 rfl ?_
  refine kw_aload_n C d_Md_takeOver_30 rfl ?_
  refine kw_getI C fi_Md_179 (Or.inl rfl) ht d_Md_takeOver_31 ?_
  refine kw_putI C fi_Md_366 rfl ht d_Md_takeOver_34 (fun σ5 => ?_)
  refine kw_aload_n C d_Md_takeOver_37 rfl ?_
  refine kw_aload_n C d_Md_takeOver_38 rfl ?_
  refine kw_getI C fi_Md_196 (Or.inr rfl) ht d_Md_takeOver_39 ?_
  refine kw_putZ C fi_Md_369 rfl ht d_Md_takeOver_42 (fun σ6 => ?_)
  refine kw_iconst (v := 0) C d_Md_takeOver_45 (by decide) ?_
  refine kw_istore_n (L' := [some (.ref t), some (.int 0)]) C d_Md_takeOver_46 (by decide) rfl ?_
  refine kw_wk (kw_l (α := Int32) (pc := 47) (Lj := fun x8 => [some (.ref t), some (.int x8)]) (stj := fun x8 => []) (fun k7 hk7 x8 σ9 => ?_) n 0 σ6) ⟨Or.inr rfl, Or.inr rfl, trivial⟩
  refine kw_iload_n C d_Md_takeOver_47 rfl ?_
  refine kw_aload_n C d_Md_takeOver_48 rfl ?_
  refine kw_getI C fi_Md_357 (Or.inl rfl) ht d_Md_takeOver_49 ?_
  refine kw_aload_n C d_Md_takeOver_52 rfl ?_
  refine kw_getI C fi_Md_360 (Or.inl rfl) ht d_Md_takeOver_53 ?_
  refine kw_imul C d_Md_takeOver_56 ?_
  refine kw_aload_n C d_Md_takeOver_57 rfl ?_
  refine kw_getI C fi_Md_363 (Or.inl rfl) ht d_Md_takeOver_58 ?_
  refine kw_callSi (cl' := 0) (sl' := 0) (As := [.int (gS σ9 (64 * t + 8))]) C (c_Md_channels hl n ids  (gS σ9 (64 * t + 8)) σ9) mi_Md_119 s_Md_channels ⟨Nat.le_of_ble_eq_true rfl, Nat.le_of_ble_eq_true rfl⟩ (Nat.le_of_ble_eq_true rfl) ⟨Nat.le_of_ble_eq_true rfl, Nat.le_of_ble_eq_true rfl⟩ ⟨rfl, rfl⟩ rfl d_Md_takeOver_61 (fun x10 σ11 => ?_)
  refine kw_imul C d_Md_takeOver_64 ?_
  refine kw_icmp_ge (tgt := 86) C d_Md_takeOver_65 (by decide) ?_ ?_
  · refine kw_aload_n C d_Md_takeOver_86 rfl ?_
    refine kw_aload_n C d_Md_takeOver_87 rfl ?_
    refine kw_getI C fi_Md_136 (Or.inl rfl) ht d_Md_takeOver_88 ?_
    refine kw_putI C fi_Md_372 rfl ht d_Md_takeOver_91 (fun σ12 => ?_)
    refine kw_iconst (v := 0) C d_Md_takeOver_94 (by decide) ?_
    refine kw_istore_n (L' := [some (.ref t), some (.int 0)]) C d_Md_takeOver_95 (by decide) rfl ?_
    refine kw_wk (kw_l (α := Int32) (pc := 96) (Lj := fun x14 => [some (.ref t), some (.int x14)]) (stj := fun x14 => []) (fun k13 hk13 x14 σ15 => ?_) n 0 σ12) ⟨Or.inr rfl, Or.inr rfl, trivial⟩
    refine kw_iload_n C d_Md_takeOver_96 rfl ?_
    refine kw_iconst (v := 3) C d_Md_takeOver_97 (by decide) ?_
    refine kw_aload_n C d_Md_takeOver_98 rfl ?_
    refine kw_getI C fi_Md_372 (Or.inl rfl) ht d_Md_takeOver_99 ?_
    refine kw_imul C d_Md_takeOver_102 ?_
    refine kw_icmp_ge (tgt := 124) C d_Md_takeOver_103 (by decide) ?_ ?_
    · refine kw_aload_n C d_Md_takeOver_124 rfl ?_
      refine kw_aload_n C d_Md_takeOver_125 rfl ?_
      refine kw_getI C fi_Md_139 (Or.inl rfl) ht d_Md_takeOver_126 ?_
      refine kw_putI C fi_Md_375 rfl ht d_Md_takeOver_129 (fun σ16 => ?_)
      refine kw_iconst (v := 0) C d_Md_takeOver_132 (by decide) ?_
      refine kw_istore_n (L' := [some (.ref t), some (.int 0)]) C d_Md_takeOver_133 (by decide) rfl ?_
      refine kw_wk (kw_l (α := Int32) (pc := 134) (Lj := fun x18 => [some (.ref t), some (.int x18)]) (stj := fun x18 => []) (fun k17 hk17 x18 σ19 => ?_) n 0 σ16) ⟨Or.inr rfl, Or.inr rfl, trivial⟩
      refine kw_iload_n C d_Md_takeOver_134 rfl ?_
      refine kw_aload_n C d_Md_takeOver_135 rfl ?_
      refine kw_getI C fi_Md_375 (Or.inl rfl) ht d_Md_takeOver_136 ?_
      refine kw_icmp_ge (tgt := 160) C d_Md_takeOver_139 (by decide) ?_ ?_
      · exact kw_vret C Ce rfl (by simp) (fun _ _ => rfl) (Nat.le_of_ble_eq_true rfl) (Nat.le_of_ble_eq_true rfl) rfl d_Md_takeOver_160
      · refine kw_aload_n C d_Md_takeOver_142 rfl ?_
        refine kw_getR C fi_Md_21 rfl rfl ht d_Md_takeOver_143 (fun o20 ho20 => ?_)
        refine kw_iload_n C d_Md_takeOver_146 rfl ?_
        refine kw_aload_n C d_Md_takeOver_147 rfl ?_
        refine kw_getR C fi_Md_30 rfl rfl ht d_Md_takeOver_148 (fun o21 ho21 => ?_)
        refine kw_iload_n C d_Md_takeOver_151 rfl ?_
        refine kw_iald C (Or.inl ⟨ho21.1, ho21.2.1⟩) d_Md_takeOver_152 ?_
        refine kw_iast C ho20 d_Md_takeOver_153 (fun σ22 => ?_)
        refine kw_iincL (L2 := fun x23 => [some (.ref t), some (.int x23)]) C d_Md_takeOver_154 (by decide) rfl (fun _ => rfl) (fun x23 => ?_)
        refine kw_goto (tgt := 134) C d_Md_takeOver_157 (by decide) ?_
        exact kw_wk (hk17 x23 σ22) ⟨Or.inr rfl, Or.inr rfl, trivial⟩
    · refine kw_aload_n C d_Md_takeOver_106 rfl ?_
      refine kw_getR C fi_Md_18 rfl rfl ht d_Md_takeOver_107 (fun o24 ho24 => ?_)
      refine kw_iload_n C d_Md_takeOver_110 rfl ?_
      refine kw_aload_n C d_Md_takeOver_111 rfl ?_
      refine kw_getR C fi_Md_27 rfl rfl ht d_Md_takeOver_112 (fun o25 ho25 => ?_)
      refine kw_iload_n C d_Md_takeOver_115 rfl ?_
      refine kw_iald C (Or.inl ⟨ho25.1, ho25.2.1⟩) d_Md_takeOver_116 ?_
      refine kw_iast C ho24 d_Md_takeOver_117 (fun σ26 => ?_)
      refine kw_iincL (L2 := fun x27 => [some (.ref t), some (.int x27)]) C d_Md_takeOver_118 (by decide) rfl (fun _ => rfl) (fun x27 => ?_)
      refine kw_goto (tgt := 96) C d_Md_takeOver_121 (by decide) ?_
      exact kw_wk (hk13 x27 σ26) ⟨Or.inr rfl, Or.inr rfl, trivial⟩
  · refine kw_aload_n C d_Md_takeOver_68 rfl ?_
    refine kw_getR C fi_Md_14 rfl rfl ht d_Md_takeOver_69 (fun o28 ho28 => ?_)
    refine kw_iload_n C d_Md_takeOver_72 rfl ?_
    refine kw_aload_n C d_Md_takeOver_73 rfl ?_
    refine kw_getR C fi_Md_24 rfl rfl ht d_Md_takeOver_74 (fun o29 ho29 => ?_)
    refine kw_iload_n C d_Md_takeOver_77 rfl ?_
    refine kw_iald C (Or.inl ⟨ho29.1, ho29.2.1⟩) d_Md_takeOver_78 ?_
    refine kw_iast C ho28 d_Md_takeOver_79 (fun σ30 => ?_)
    refine kw_iincL (L2 := fun x31 => [some (.ref t), some (.int x31)]) C d_Md_takeOver_80 (by decide) rfl (fun _ => rfl) (fun x31 => ?_)
    refine kw_goto (tgt := 47) C d_Md_takeOver_83 (by decide) ?_
    exact kw_wk (hk7 x31 σ30) ⟨Or.inr rfl, Or.inr rfl, trivial⟩
/-! Md_read -/
def rm_Md_read : Room := { frames := 8, cells := 0, slots := 0, locals := 199 }
def F_Md_read (n : Nat) (t : Nat) (σ : Mm) : Option (Int32 × Mm) :=
kf_let (pS σ (64 * t + 0) 0) fun σ1 =>
kf_let (pS σ1 (64 * t + 3) 0) fun σ2 =>
kf_let (pS σ2 (64 * t + 4) (-1)) fun σ3 =>
kf_c2 (F_Md_readFile n t σ3) fun x4 σ5 =>
if x4 = 0 then (
some (gS σ5 (64 * t + 4), σ5)) else (
kf_let (pS σ5 (64 * t + 52) (gS σ5 (64 * t + 18))) fun σ6 =>
kf_let (pS σ6 (64 * t + 53) (gS σ6 (64 * t + 19))) fun σ7 =>
Option.bind (F_Md_rows n t (gS σ7 (64 * t + 16)) (gS σ7 (64 * t + 17)) (gS σ7 (64 * t + 18)) (gS σ7 (64 * t + 19)) (gS σ7 (64 * t + 20)) σ7) fun σ8 =>
kf_let (pS σ8 (64 * t + 32) (gS σ8 (64 * t + 39))) fun σ9 =>
kf_c2 (F_Md_unpack n t σ9) fun x10 σ11 =>
kf_j (α := Unit) (fun x13 σ14 =>
some (gS σ14 (64 * t + 4), σ14)) fun k12 =>
if x10 = 0 then (
k12 () σ11) else (
kf_c2 (F_Md_isPlain n t σ11) fun x15 σ16 =>
if x15 = 0 then (
k12 () σ16) else (
kf_c2 (F_Md_channels n (gS σ16 (64 * t + 18)) σ16) fun x17 σ18 =>
kf_l (α := Int32) n (fun k19 x20 σ21 =>
if (gS σ21 (64 * t + 38)) ≤ x20 then (
kf_l (α := Int32) n (fun k22 x23 σ24 =>
kf_j (α := Unit) (fun x26 σ27 =>
Option.bind (F_Md_takeOver n t σ27) fun σ28 =>
some (-1, σ28)) fun k25 =>
if ((gS σ24 (64 * t + 16)) * (gS σ24 (64 * t + 17))) ≤ x23 then (
k25 () σ24) else (
if (gS σ24 (64 * t + 18)) = 3 then (
Option.bind (gR σ24 (64 * t + 21)) fun o29 =>
kf_in x23 (mm_kd o29).2.2 <|
if (gB σ24 o29 x23.toNatClampNeg) < (gS σ24 (64 * t + 23)) then (
kf_let (x23 + Int32.ofInt 1) fun x30 =>
k22 x30 σ24) else (
kf_let (pS σ24 (64 * t + 3) 31) fun σ31 =>
some (x23, σ31))) else (
k25 () σ24))) 0 σ21) else (
kf_l (α := Int32) n (fun k32 x33 σ34 =>
Option.bind (gR σ34 (64 * t + 37)) fun o35 =>
kf_in x20 (mm_kd o35).2.2 <|
if (gB σ34 o35 x20.toNatClampNeg) ≤ x33 then (
kf_let (x20 + Int32.ofInt 1) fun x36 =>
k19 x36 σ34) else (
kf_l (α := Int32) n (fun k37 x38 σ39 =>
if x17 ≤ x38 then (
kf_let (x33 + Int32.ofInt 1) fun x40 =>
k32 x40 σ39) else (
Option.bind (gR σ39 (64 * t + 21)) fun o41 =>
kf_c2 (F_Md_pointOf n t x20 x33 (gS σ39 (64 * t + 16)) σ39) fun x42 σ43 =>
kf_c2 (F_Md_sampleOf n t x20 x33 x38 σ43) fun x44 σ45 =>
kf_in ((x42 * x17) + x38) (mm_kd o41).2.2 <| kf_let (pB σ45 o41 ((x42 * x17) + x38).toNatClampNeg x44) fun σ46 =>
kf_let (x38 + Int32.ofInt 1) fun x47 =>
k37 x47 σ46)) 0 σ34)) 0 σ21)) 0 σ18)))
theorem d_Md_read_0 : decode prog_14_method_62_code 0 = .ok (.aload_n 0, 1) := by decide +kernel
theorem d_Md_read_1 : decode prog_14_method_62_code 1 = .ok (.iconst 0, 1) := by decide +kernel
theorem d_Md_read_2 : decode prog_14_method_62_code 2 = .ok (.putfield 67, 3) := by decide +kernel
theorem d_Md_read_5 : decode prog_14_method_62_code 5 = .ok (.aload_n 0, 1) := by decide +kernel
theorem d_Md_read_6 : decode prog_14_method_62_code 6 = .ok (.iconst 0, 1) := by decide +kernel
theorem d_Md_read_7 : decode prog_14_method_62_code 7 = .ok (.putfield 91, 3) := by decide +kernel
theorem d_Md_read_10 : decode prog_14_method_62_code 10 = .ok (.aload_n 0, 1) := by decide +kernel
theorem d_Md_read_11 : decode prog_14_method_62_code 11 = .ok (.iconst (-1), 1) := by decide +kernel
theorem d_Md_read_12 : decode prog_14_method_62_code 12 = .ok (.putfield 94, 3) := by decide +kernel
theorem d_Md_read_15 : decode prog_14_method_62_code 15 = .ok (.aload_n 0, 1) := by decide +kernel
theorem d_Md_read_16 : decode prog_14_method_62_code 16 = .ok (.invokevirtual 332, 3) := by decide +kernel
theorem d_Md_read_19 : decode prog_14_method_62_code 19 = .ok (.ifCond .ne 8, 3) := by decide +kernel
theorem d_Md_read_22 : decode prog_14_method_62_code 22 = .ok (.aload_n 0, 1) := by decide +kernel
theorem d_Md_read_23 : decode prog_14_method_62_code 23 = .ok (.getfield 94, 3) := by decide +kernel
theorem d_Md_read_26 : decode prog_14_method_62_code 26 = .ok (.ireturn, 1) := by decide +kernel
theorem d_Md_read_27 : decode prog_14_method_62_code 27 = .ok (.aload_n 0, 1) := by decide +kernel
theorem d_Md_read_28 : decode prog_14_method_62_code 28 = .ok (.aload_n 0, 1) := by decide +kernel
theorem d_Md_read_29 : decode prog_14_method_62_code 29 = .ok (.getfield 170, 3) := by decide +kernel
theorem d_Md_read_32 : decode prog_14_method_62_code 32 = .ok (.putfield 317, 3) := by decide +kernel
theorem d_Md_read_35 : decode prog_14_method_62_code 35 = .ok (.aload_n 0, 1) := by decide +kernel
theorem d_Md_read_36 : decode prog_14_method_62_code 36 = .ok (.aload_n 0, 1) := by decide +kernel
theorem d_Md_read_37 : decode prog_14_method_62_code 37 = .ok (.getfield 179, 3) := by decide +kernel
theorem d_Md_read_40 : decode prog_14_method_62_code 40 = .ok (.putfield 320, 3) := by decide +kernel
theorem d_Md_read_43 : decode prog_14_method_62_code 43 = .ok (.aload_n 0, 1) := by decide +kernel
theorem d_Md_read_44 : decode prog_14_method_62_code 44 = .ok (.aload_n 0, 1) := by decide +kernel
theorem d_Md_read_45 : decode prog_14_method_62_code 45 = .ok (.getfield 187, 3) := by decide +kernel
theorem d_Md_read_48 : decode prog_14_method_62_code 48 = .ok (.aload_n 0, 1) := by decide +kernel
theorem d_Md_read_49 : decode prog_14_method_62_code 49 = .ok (.getfield 190, 3) := by decide +kernel
theorem d_Md_read_52 : decode prog_14_method_62_code 52 = .ok (.aload_n 0, 1) := by decide +kernel
theorem d_Md_read_53 : decode prog_14_method_62_code 53 = .ok (.getfield 170, 3) := by decide +kernel
theorem d_Md_read_56 : decode prog_14_method_62_code 56 = .ok (.aload_n 0, 1) := by decide +kernel
theorem d_Md_read_57 : decode prog_14_method_62_code 57 = .ok (.getfield 179, 3) := by decide +kernel
theorem d_Md_read_60 : decode prog_14_method_62_code 60 = .ok (.aload_n 0, 1) := by decide +kernel
theorem d_Md_read_61 : decode prog_14_method_62_code 61 = .ok (.getfield 196, 3) := by decide +kernel
theorem d_Md_read_64 : decode prog_14_method_62_code 64 = .ok (.invokevirtual 335, 3) := by decide +kernel
theorem d_Md_read_67 : decode prog_14_method_62_code 67 = .ok (.aload_n 0, 1) := by decide +kernel
theorem d_Md_read_68 : decode prog_14_method_62_code 68 = .ok (.aload_n 0, 1) := by decide +kernel
theorem d_Md_read_69 : decode prog_14_method_62_code 69 = .ok (.getfield 100, 3) := by decide +kernel
theorem d_Md_read_72 : decode prog_14_method_62_code 72 = .ok (.putfield 262, 3) := by decide +kernel
theorem d_Md_read_75 : decode prog_14_method_62_code 75 = .ok (.aload_n 0, 1) := by decide +kernel
theorem d_Md_read_76 : decode prog_14_method_62_code 76 = .ok (.invokevirtual 339, 3) := by decide +kernel
theorem d_Md_read_79 : decode prog_14_method_62_code 79 = .ok (.ifCond .eq 10, 3) := by decide +kernel
theorem d_Md_read_82 : decode prog_14_method_62_code 82 = .ok (.aload_n 0, 1) := by decide +kernel
theorem d_Md_read_83 : decode prog_14_method_62_code 83 = .ok (.invokevirtual 342, 3) := by decide +kernel
theorem d_Md_read_86 : decode prog_14_method_62_code 86 = .ok (.ifCond .ne 8, 3) := by decide +kernel
theorem d_Md_read_89 : decode prog_14_method_62_code 89 = .ok (.aload_n 0, 1) := by decide +kernel
theorem d_Md_read_90 : decode prog_14_method_62_code 90 = .ok (.getfield 94, 3) := by decide +kernel
theorem d_Md_read_93 : decode prog_14_method_62_code 93 = .ok (.ireturn, 1) := by decide +kernel
theorem d_Md_read_94 : decode prog_14_method_62_code 94 = .ok (.aload_n 0, 1) := by decide +kernel
theorem d_Md_read_95 : decode prog_14_method_62_code 95 = .ok (.getfield 170, 3) := by decide +kernel
theorem d_Md_read_98 : decode prog_14_method_62_code 98 = .ok (.invokestatic 119, 3) := by decide +kernel
theorem d_Md_read_101 : decode prog_14_method_62_code 101 = .ok (.istore_n 1, 1) := by decide +kernel
theorem d_Md_read_102 : decode prog_14_method_62_code 102 = .ok (.iconst 0, 1) := by decide +kernel
theorem d_Md_read_103 : decode prog_14_method_62_code 103 = .ok (.istore_n 2, 1) := by decide +kernel
theorem d_Md_read_104 : decode prog_14_method_62_code 104 = .ok (.iload_n 2, 1) := by decide +kernel
theorem d_Md_read_105 : decode prog_14_method_62_code 105 = .ok (.aload_n 0, 1) := by decide +kernel
theorem d_Md_read_106 : decode prog_14_method_62_code 106 = .ok (.getfield 97, 3) := by decide +kernel
theorem d_Md_read_109 : decode prog_14_method_62_code 109 = .ok (.if_icmp .ge 70, 3) := by decide +kernel
theorem d_Md_read_112 : decode prog_14_method_62_code 112 = .ok (.iconst 0, 1) := by decide +kernel
theorem d_Md_read_113 : decode prog_14_method_62_code 113 = .ok (.istore_n 3, 1) := by decide +kernel
theorem d_Md_read_114 : decode prog_14_method_62_code 114 = .ok (.iload_n 3, 1) := by decide +kernel
theorem d_Md_read_115 : decode prog_14_method_62_code 115 = .ok (.aload_n 0, 1) := by decide +kernel
theorem d_Md_read_116 : decode prog_14_method_62_code 116 = .ok (.getfield 55, 3) := by decide +kernel
theorem d_Md_read_119 : decode prog_14_method_62_code 119 = .ok (.iload_n 2, 1) := by decide +kernel
theorem d_Md_read_120 : decode prog_14_method_62_code 120 = .ok (.iaload, 1) := by decide +kernel
theorem d_Md_read_121 : decode prog_14_method_62_code 121 = .ok (.if_icmp .ge 52, 3) := by decide +kernel
theorem d_Md_read_124 : decode prog_14_method_62_code 124 = .ok (.iconst 0, 1) := by decide +kernel
theorem d_Md_read_125 : decode prog_14_method_62_code 125 = .ok (.istore 4, 2) := by decide +kernel
theorem d_Md_read_127 : decode prog_14_method_62_code 127 = .ok (.iload 4, 2) := by decide +kernel
theorem d_Md_read_129 : decode prog_14_method_62_code 129 = .ok (.iload_n 1, 1) := by decide +kernel
theorem d_Md_read_130 : decode prog_14_method_62_code 130 = .ok (.if_icmp .ge 37, 3) := by decide +kernel
theorem d_Md_read_133 : decode prog_14_method_62_code 133 = .ok (.aload_n 0, 1) := by decide +kernel
theorem d_Md_read_134 : decode prog_14_method_62_code 134 = .ok (.getfield 24, 3) := by decide +kernel
theorem d_Md_read_137 : decode prog_14_method_62_code 137 = .ok (.aload_n 0, 1) := by decide +kernel
theorem d_Md_read_138 : decode prog_14_method_62_code 138 = .ok (.iload_n 2, 1) := by decide +kernel
theorem d_Md_read_139 : decode prog_14_method_62_code 139 = .ok (.iload_n 3, 1) := by decide +kernel
theorem d_Md_read_140 : decode prog_14_method_62_code 140 = .ok (.aload_n 0, 1) := by decide +kernel
theorem d_Md_read_141 : decode prog_14_method_62_code 141 = .ok (.getfield 187, 3) := by decide +kernel
theorem d_Md_read_144 : decode prog_14_method_62_code 144 = .ok (.invokevirtual 345, 3) := by decide +kernel
theorem d_Md_read_147 : decode prog_14_method_62_code 147 = .ok (.iload_n 1, 1) := by decide +kernel
theorem d_Md_read_148 : decode prog_14_method_62_code 148 = .ok (.imul, 1) := by decide +kernel
theorem d_Md_read_149 : decode prog_14_method_62_code 149 = .ok (.iload 4, 2) := by decide +kernel
theorem d_Md_read_151 : decode prog_14_method_62_code 151 = .ok (.iadd, 1) := by decide +kernel
theorem d_Md_read_152 : decode prog_14_method_62_code 152 = .ok (.aload_n 0, 1) := by decide +kernel
theorem d_Md_read_153 : decode prog_14_method_62_code 153 = .ok (.iload_n 2, 1) := by decide +kernel
theorem d_Md_read_154 : decode prog_14_method_62_code 154 = .ok (.iload_n 3, 1) := by decide +kernel
theorem d_Md_read_155 : decode prog_14_method_62_code 155 = .ok (.iload 4, 2) := by decide +kernel
theorem d_Md_read_157 : decode prog_14_method_62_code 157 = .ok (.invokevirtual 348, 3) := by decide +kernel
theorem d_Md_read_160 : decode prog_14_method_62_code 160 = .ok (.iastore, 1) := by decide +kernel
theorem d_Md_read_161 : decode prog_14_method_62_code 161 = .ok (.iinc 4 1, 3) := by decide +kernel
theorem d_Md_read_164 : decode prog_14_method_62_code 164 = .ok (.goto (-37), 3) := by decide +kernel
theorem d_Md_read_167 : decode prog_14_method_62_code 167 = .ok (.iinc 3 1, 3) := by decide +kernel
theorem d_Md_read_170 : decode prog_14_method_62_code 170 = .ok (.goto (-56), 3) := by decide +kernel
theorem d_Md_read_173 : decode prog_14_method_62_code 173 = .ok (.iinc 2 1, 3) := by decide +kernel
theorem d_Md_read_176 : decode prog_14_method_62_code 176 = .ok (.goto (-72), 3) := by decide +kernel
theorem d_Md_read_179 : decode prog_14_method_62_code 179 = .ok (.iconst 0, 1) := by decide +kernel
theorem d_Md_read_180 : decode prog_14_method_62_code 180 = .ok (.istore_n 2, 1) := by decide +kernel
theorem d_Md_read_181 : decode prog_14_method_62_code 181 = .ok (.iload_n 2, 1) := by decide +kernel
theorem d_Md_read_182 : decode prog_14_method_62_code 182 = .ok (.aload_n 0, 1) := by decide +kernel
theorem d_Md_read_183 : decode prog_14_method_62_code 183 = .ok (.getfield 187, 3) := by decide +kernel
theorem d_Md_read_186 : decode prog_14_method_62_code 186 = .ok (.aload_n 0, 1) := by decide +kernel
theorem d_Md_read_187 : decode prog_14_method_62_code 187 = .ok (.getfield 190, 3) := by decide +kernel
theorem d_Md_read_190 : decode prog_14_method_62_code 190 = .ok (.imul, 1) := by decide +kernel
theorem d_Md_read_191 : decode prog_14_method_62_code 191 = .ok (.if_icmp .ge 38, 3) := by decide +kernel
theorem d_Md_read_194 : decode prog_14_method_62_code 194 = .ok (.aload_n 0, 1) := by decide +kernel
theorem d_Md_read_195 : decode prog_14_method_62_code 195 = .ok (.getfield 170, 3) := by decide +kernel
theorem d_Md_read_198 : decode prog_14_method_62_code 198 = .ok (.iconst 3, 1) := by decide +kernel
theorem d_Md_read_199 : decode prog_14_method_62_code 199 = .ok (.if_icmp .ne 30, 3) := by decide +kernel
theorem d_Md_read_202 : decode prog_14_method_62_code 202 = .ok (.aload_n 0, 1) := by decide +kernel
theorem d_Md_read_203 : decode prog_14_method_62_code 203 = .ok (.getfield 24, 3) := by decide +kernel
theorem d_Md_read_206 : decode prog_14_method_62_code 206 = .ok (.iload_n 2, 1) := by decide +kernel
theorem d_Md_read_207 : decode prog_14_method_62_code 207 = .ok (.iaload, 1) := by decide +kernel
theorem d_Md_read_208 : decode prog_14_method_62_code 208 = .ok (.aload_n 0, 1) := by decide +kernel
theorem d_Md_read_209 : decode prog_14_method_62_code 209 = .ok (.getfield 136, 3) := by decide +kernel
theorem d_Md_read_212 : decode prog_14_method_62_code 212 = .ok (.if_icmp .lt 11, 3) := by decide +kernel
theorem d_Md_read_215 : decode prog_14_method_62_code 215 = .ok (.aload_n 0, 1) := by decide +kernel
theorem d_Md_read_216 : decode prog_14_method_62_code 216 = .ok (.bipush 31, 2) := by decide +kernel
theorem d_Md_read_218 : decode prog_14_method_62_code 218 = .ok (.putfield 91, 3) := by decide +kernel
theorem d_Md_read_221 : decode prog_14_method_62_code 221 = .ok (.iload_n 2, 1) := by decide +kernel
theorem d_Md_read_222 : decode prog_14_method_62_code 222 = .ok (.ireturn, 1) := by decide +kernel
theorem d_Md_read_223 : decode prog_14_method_62_code 223 = .ok (.iinc 2 1, 3) := by decide +kernel
theorem d_Md_read_226 : decode prog_14_method_62_code 226 = .ok (.goto (-45), 3) := by decide +kernel
theorem d_Md_read_229 : decode prog_14_method_62_code 229 = .ok (.aload_n 0, 1) := by decide +kernel
theorem d_Md_read_230 : decode prog_14_method_62_code 230 = .ok (.invokevirtual 351, 3) := by decide +kernel
theorem d_Md_read_233 : decode prog_14_method_62_code 233 = .ok (.iconst (-1), 1) := by decide +kernel
theorem d_Md_read_234 : decode prog_14_method_62_code 234 = .ok (.ireturn, 1) := by decide +kernel
set_option maxRecDepth 100000 in
set_option maxHeartbeats 4000000 in
theorem c_Md_read {l0 : Launch} (hl : l0.stackTraces = false) (n : Nat) (ids : List Nat) {t : Nat} (ht : mm_ok ids t 1 12)  (σ : Mm) : kw_C l0 y_Md_read (Cond.code y_Md_read prog_14_method_62_code 5 (some .int) :: kw_Ts) rm_Md_read kw_oi ids [] [.ref t] σ (F_Md_read n t σ) := by
  refine kw_start (L0 := [some (.ref t), none, none, none, none]) hl (by decide +kernel) (Nat.le_of_ble_eq_true rfl) rfl (fun Γ ad C Ce => ?_)
  unfold F_Md_read
  refine kw_aload_n C d_Md_read_0 rfl ?_
  refine kw_iconst (v := 0) C d_Md_read_1 (by decide) ?_
  refine kw_putI C fi_Md_67 rfl ht d_Md_read_2 (fun σ1 => ?_)
  refine kw_aload_n C d_Md_read_5 rfl ?_
  refine kw_iconst (v := 0) C d_Md_read_6 (by decide) ?_
  refine kw_putI C fi_Md_91 rfl ht d_Md_read_7 (fun σ2 => ?_)
  refine kw_aload_n C d_Md_read_10 rfl ?_
  refine kw_iconst (v := -1) C d_Md_read_11 (by decide) ?_
  refine kw_putI C fi_Md_94 rfl ht d_Md_read_12 (fun σ3 => ?_)
  refine kw_aload_n C d_Md_read_15 rfl ?_
  refine kw_callVi (cl' := 0) (sl' := 0) (As := []) C (c_Md_readFile hl n ids ht  σ3) mi_Md_332 v_Md_readFile ⟨_, _, rfl⟩ ht ⟨Nat.le_of_ble_eq_true rfl, Nat.le_of_ble_eq_true rfl⟩ (Nat.le_of_ble_eq_true rfl) ⟨Nat.le_of_ble_eq_true rfl, Nat.le_of_ble_eq_true rfl⟩ ⟨rfl, rfl⟩ rfl d_Md_read_16 (fun x4 σ5 => ?_)
  refine kw_if_ne (tgt := 27) C d_Md_read_19 (by decide) ?_ ?_
  · refine kw_aload_n C d_Md_read_27 rfl ?_
    refine kw_aload_n C d_Md_read_28 rfl ?_
    refine kw_getI C fi_Md_170 (Or.inl rfl) ht d_Md_read_29 ?_
    refine kw_putI C fi_Md_317 rfl ht d_Md_read_32 (fun σ6 => ?_)
    refine kw_aload_n C d_Md_read_35 rfl ?_
    refine kw_aload_n C d_Md_read_36 rfl ?_
    refine kw_getI C fi_Md_179 (Or.inl rfl) ht d_Md_read_37 ?_
    refine kw_putI C fi_Md_320 rfl ht d_Md_read_40 (fun σ7 => ?_)
    refine kw_aload_n C d_Md_read_43 rfl ?_
    refine kw_aload_n C d_Md_read_44 rfl ?_
    refine kw_getI C fi_Md_187 (Or.inl rfl) ht d_Md_read_45 ?_
    refine kw_aload_n C d_Md_read_48 rfl ?_
    refine kw_getI C fi_Md_190 (Or.inl rfl) ht d_Md_read_49 ?_
    refine kw_aload_n C d_Md_read_52 rfl ?_
    refine kw_getI C fi_Md_170 (Or.inl rfl) ht d_Md_read_53 ?_
    refine kw_aload_n C d_Md_read_56 rfl ?_
    refine kw_getI C fi_Md_179 (Or.inl rfl) ht d_Md_read_57 ?_
    refine kw_aload_n C d_Md_read_60 rfl ?_
    refine kw_getI C fi_Md_196 (Or.inr rfl) ht d_Md_read_61 ?_
    refine kw_callVv (cl' := 0) (sl' := 0) (As := [.int (gS σ7 (64 * t + 16)), .int (gS σ7 (64 * t + 17)), .int (gS σ7 (64 * t + 18)), .int (gS σ7 (64 * t + 19)), .int (gS σ7 (64 * t + 20))]) C (c_Md_rows hl n ids ht (gS σ7 (64 * t + 16)) (gS σ7 (64 * t + 17)) (gS σ7 (64 * t + 18)) (gS σ7 (64 * t + 19)) (gS σ7 (64 * t + 20)) σ7) mi_Md_335 v_Md_rows ⟨_, _, rfl⟩ ht ⟨Nat.le_of_ble_eq_true rfl, Nat.le_of_ble_eq_true rfl⟩ (Nat.le_of_ble_eq_true rfl) ⟨Nat.le_of_ble_eq_true rfl, Nat.le_of_ble_eq_true rfl⟩ ⟨rfl, rfl⟩ rfl d_Md_read_64 (fun σ8 => ?_)
    refine kw_aload_n C d_Md_read_67 rfl ?_
    refine kw_aload_n C d_Md_read_68 rfl ?_
    refine kw_getI C fi_Md_100 (Or.inl rfl) ht d_Md_read_69 ?_
    refine kw_putI C fi_Md_262 rfl ht d_Md_read_72 (fun σ9 => ?_)
    refine kw_aload_n C d_Md_read_75 rfl ?_
    refine kw_callVi (cl' := 0) (sl' := 0) (As := []) C (c_Md_unpack hl n ids ht  σ9) mi_Md_339 v_Md_unpack ⟨_, _, rfl⟩ ht ⟨Nat.le_of_ble_eq_true rfl, Nat.le_of_ble_eq_true rfl⟩ (Nat.le_of_ble_eq_true rfl) ⟨Nat.le_of_ble_eq_true rfl, Nat.le_of_ble_eq_true rfl⟩ ⟨rfl, rfl⟩ rfl d_Md_read_76 (fun x10 σ11 => ?_)
    refine kw_j (α := Unit) (pcj := 89) (Lj := fun x13 => [some (.ref t), none, none, none, none]) (stj := fun x13 => []) (fun x13 σ14 => ?_) (fun k12 hk12 => ?_)
    · refine kw_aload_n C d_Md_read_89 rfl ?_
      refine kw_getI C fi_Md_94 (Or.inl rfl) ht d_Md_read_90 ?_
      exact kw_iret C Ce rfl (by simp) (fun _ _ => rfl) (Nat.le_of_ble_eq_true rfl) (Nat.le_of_ble_eq_true rfl) rfl d_Md_read_93
    · refine kw_if_eq (tgt := 89) C d_Md_read_79 (by decide) ?_ ?_
      · exact kw_wk (hk12 () σ11) ⟨Or.inr rfl, Or.inl rfl, Or.inl rfl, Or.inl rfl, Or.inl rfl, trivial⟩
      · refine kw_aload_n C d_Md_read_82 rfl ?_
        refine kw_callVi (cl' := 0) (sl' := 0) (As := []) C (c_Md_isPlain hl n ids ht  σ11) mi_Md_342 v_Md_isPlain ⟨_, _, rfl⟩ ht ⟨Nat.le_of_ble_eq_true rfl, Nat.le_of_ble_eq_true rfl⟩ (Nat.le_of_ble_eq_true rfl) ⟨Nat.le_of_ble_eq_true rfl, Nat.le_of_ble_eq_true rfl⟩ ⟨rfl, rfl⟩ rfl d_Md_read_83 (fun x15 σ16 => ?_)
        refine kw_if_ne (tgt := 94) C d_Md_read_86 (by decide) ?_ ?_
        · refine kw_aload_n C d_Md_read_94 rfl ?_
          refine kw_getI C fi_Md_170 (Or.inl rfl) ht d_Md_read_95 ?_
          refine kw_callSi (cl' := 0) (sl' := 0) (As := [.int (gS σ16 (64 * t + 18))]) C (c_Md_channels hl n ids  (gS σ16 (64 * t + 18)) σ16) mi_Md_119 s_Md_channels ⟨Nat.le_of_ble_eq_true rfl, Nat.le_of_ble_eq_true rfl⟩ (Nat.le_of_ble_eq_true rfl) ⟨Nat.le_of_ble_eq_true rfl, Nat.le_of_ble_eq_true rfl⟩ ⟨rfl, rfl⟩ rfl d_Md_read_98 (fun x17 σ18 => ?_)
          refine kw_istore_n (L' := [some (.ref t), some (.int x17), none, none, none]) C d_Md_read_101 (by decide) rfl ?_
          refine kw_iconst (v := 0) C d_Md_read_102 (by decide) ?_
          refine kw_istore_n (L' := [some (.ref t), some (.int x17), some (.int 0), none, none]) C d_Md_read_103 (by decide) rfl ?_
          refine kw_wk (kw_l (α := Int32) (pc := 104) (Lj := fun x20 => [some (.ref t), some (.int x17), some (.int x20), none, none]) (stj := fun x20 => []) (fun k19 hk19 x20 σ21 => ?_) n 0 σ18) ⟨Or.inr rfl, Or.inr rfl, Or.inr rfl, Or.inl rfl, Or.inl rfl, trivial⟩
          refine kw_iload_n C d_Md_read_104 rfl ?_
          refine kw_aload_n C d_Md_read_105 rfl ?_
          refine kw_getI C fi_Md_97 (Or.inl rfl) ht d_Md_read_106 ?_
          refine kw_icmp_ge (tgt := 179) C d_Md_read_109 (by decide) ?_ ?_
          · refine kw_iconst (v := 0) C d_Md_read_179 (by decide) ?_
            refine kw_istore_n (L' := [some (.ref t), some (.int x17), some (.int 0), none, none]) C d_Md_read_180 (by decide) rfl ?_
            refine kw_wk (kw_l (α := Int32) (pc := 181) (Lj := fun x23 => [some (.ref t), none, some (.int x23), none, none]) (stj := fun x23 => []) (fun k22 hk22 x23 σ24 => ?_) n 0 σ21) ⟨Or.inr rfl, Or.inl rfl, Or.inr rfl, Or.inl rfl, Or.inl rfl, trivial⟩
            refine kw_iload_n C d_Md_read_181 rfl ?_
            refine kw_aload_n C d_Md_read_182 rfl ?_
            refine kw_getI C fi_Md_187 (Or.inl rfl) ht d_Md_read_183 ?_
            refine kw_aload_n C d_Md_read_186 rfl ?_
            refine kw_getI C fi_Md_190 (Or.inl rfl) ht d_Md_read_187 ?_
            refine kw_imul C d_Md_read_190 ?_
            refine kw_j (α := Unit) (pcj := 229) (Lj := fun x26 => [some (.ref t), none, none, none, none]) (stj := fun x26 => []) (fun x26 σ27 => ?_) (fun k25 hk25 => ?_)
            · refine kw_aload_n C d_Md_read_229 rfl ?_
              refine kw_callVv (cl' := 0) (sl' := 0) (As := []) C (c_Md_takeOver hl n ids ht  σ27) mi_Md_351 v_Md_takeOver ⟨_, _, rfl⟩ ht ⟨Nat.le_of_ble_eq_true rfl, Nat.le_of_ble_eq_true rfl⟩ (Nat.le_of_ble_eq_true rfl) ⟨Nat.le_of_ble_eq_true rfl, Nat.le_of_ble_eq_true rfl⟩ ⟨rfl, rfl⟩ rfl d_Md_read_230 (fun σ28 => ?_)
              refine kw_iconst (v := -1) C d_Md_read_233 (by decide) ?_
              exact kw_iret C Ce rfl (by simp) (fun _ _ => rfl) (Nat.le_of_ble_eq_true rfl) (Nat.le_of_ble_eq_true rfl) rfl d_Md_read_234
            · refine kw_icmp_ge (tgt := 229) C d_Md_read_191 (by decide) ?_ ?_
              · exact kw_wk (hk25 () σ24) ⟨Or.inr rfl, Or.inl rfl, Or.inl rfl, Or.inl rfl, Or.inl rfl, trivial⟩
              · refine kw_aload_n C d_Md_read_194 rfl ?_
                refine kw_getI C fi_Md_170 (Or.inl rfl) ht d_Md_read_195 ?_
                refine kw_iconst (v := 3) C d_Md_read_198 (by decide) ?_
                refine kw_icmp_ne (tgt := 229) C d_Md_read_199 (by decide) ?_ ?_
                · exact kw_wk (hk25 () σ24) ⟨Or.inr rfl, Or.inl rfl, Or.inl rfl, Or.inl rfl, Or.inl rfl, trivial⟩
                · refine kw_aload_n C d_Md_read_202 rfl ?_
                  refine kw_getR C fi_Md_24 rfl rfl ht d_Md_read_203 (fun o29 ho29 => ?_)
                  refine kw_iload_n C d_Md_read_206 rfl ?_
                  refine kw_iald C (Or.inl ⟨ho29.1, ho29.2.1⟩) d_Md_read_207 ?_
                  refine kw_aload_n C d_Md_read_208 rfl ?_
                  refine kw_getI C fi_Md_136 (Or.inl rfl) ht d_Md_read_209 ?_
                  refine kw_icmp_lt (tgt := 223) C d_Md_read_212 (by decide) ?_ ?_
                  · refine kw_iincL (L2 := fun x30 => [some (.ref t), none, some (.int x30), none, none]) C d_Md_read_223 (by decide) rfl (fun _ => rfl) (fun x30 => ?_)
                    refine kw_goto (tgt := 181) C d_Md_read_226 (by decide) ?_
                    exact kw_wk (hk22 x30 σ24) ⟨Or.inr rfl, Or.inl rfl, Or.inr rfl, Or.inl rfl, Or.inl rfl, trivial⟩
                  · refine kw_aload_n C d_Md_read_215 rfl ?_
                    refine kw_bipush (v := 31) C d_Md_read_216 (by decide) ?_
                    refine kw_putI C fi_Md_91 rfl ht d_Md_read_218 (fun σ31 => ?_)
                    refine kw_iload_n C d_Md_read_221 rfl ?_
                    exact kw_iret C Ce rfl (by simp) (fun _ _ => rfl) (Nat.le_of_ble_eq_true rfl) (Nat.le_of_ble_eq_true rfl) rfl d_Md_read_222
          · refine kw_iconst (v := 0) C d_Md_read_112 (by decide) ?_
            refine kw_istore_n (L' := [some (.ref t), some (.int x17), some (.int x20), some (.int 0), none]) C d_Md_read_113 (by decide) rfl ?_
            refine kw_wk (kw_l (α := Int32) (pc := 114) (Lj := fun x33 => [some (.ref t), some (.int x17), some (.int x20), some (.int x33), none]) (stj := fun x33 => []) (fun k32 hk32 x33 σ34 => ?_) n 0 σ21) ⟨Or.inr rfl, Or.inr rfl, Or.inr rfl, Or.inr rfl, Or.inl rfl, trivial⟩
            refine kw_iload_n C d_Md_read_114 rfl ?_
            refine kw_aload_n C d_Md_read_115 rfl ?_
            refine kw_getR C fi_Md_55 rfl rfl ht d_Md_read_116 (fun o35 ho35 => ?_)
            refine kw_iload_n C d_Md_read_119 rfl ?_
            refine kw_iald C (Or.inl ⟨ho35.1, ho35.2.1⟩) d_Md_read_120 ?_
            refine kw_icmp_ge (tgt := 173) C d_Md_read_121 (by decide) ?_ ?_
            · refine kw_iincL (L2 := fun x36 => [some (.ref t), some (.int x17), some (.int x36), some (.int x33), none]) C d_Md_read_173 (by decide) rfl (fun _ => rfl) (fun x36 => ?_)
              refine kw_goto (tgt := 104) C d_Md_read_176 (by decide) ?_
              exact kw_wk (hk19 x36 σ34) ⟨Or.inr rfl, Or.inr rfl, Or.inr rfl, Or.inl rfl, Or.inl rfl, trivial⟩
            · refine kw_iconst (v := 0) C d_Md_read_124 (by decide) ?_
              refine kw_istore (L' := [some (.ref t), some (.int x17), some (.int x20), some (.int x33), some (.int 0)]) C d_Md_read_125 (by decide) rfl ?_
              refine kw_wk (kw_l (α := Int32) (pc := 127) (Lj := fun x38 => [some (.ref t), some (.int x17), some (.int x20), some (.int x33), some (.int x38)]) (stj := fun x38 => []) (fun k37 hk37 x38 σ39 => ?_) n 0 σ34) ⟨Or.inr rfl, Or.inr rfl, Or.inr rfl, Or.inr rfl, Or.inr rfl, trivial⟩
              refine kw_iload C d_Md_read_127 rfl ?_
              refine kw_iload_n C d_Md_read_129 rfl ?_
              refine kw_icmp_ge (tgt := 167) C d_Md_read_130 (by decide) ?_ ?_
              · refine kw_iincL (L2 := fun x40 => [some (.ref t), some (.int x17), some (.int x20), some (.int x40), some (.int x38)]) C d_Md_read_167 (by decide) rfl (fun _ => rfl) (fun x40 => ?_)
                refine kw_goto (tgt := 114) C d_Md_read_170 (by decide) ?_
                exact kw_wk (hk32 x40 σ39) ⟨Or.inr rfl, Or.inr rfl, Or.inr rfl, Or.inr rfl, Or.inl rfl, trivial⟩
              · refine kw_aload_n C d_Md_read_133 rfl ?_
                refine kw_getR C fi_Md_24 rfl rfl ht d_Md_read_134 (fun o41 ho41 => ?_)
                refine kw_aload_n C d_Md_read_137 rfl ?_
                refine kw_iload_n C d_Md_read_138 rfl ?_
                refine kw_iload_n C d_Md_read_139 rfl ?_
                refine kw_aload_n C d_Md_read_140 rfl ?_
                refine kw_getI C fi_Md_187 (Or.inl rfl) ht d_Md_read_141 ?_
                refine kw_callVi (cl' := 0) (sl' := 0) (As := [.int x20, .int x33, .int (gS σ39 (64 * t + 16))]) C (c_Md_pointOf hl n ids ht x20 x33 (gS σ39 (64 * t + 16)) σ39) mi_Md_345 v_Md_pointOf ⟨_, _, rfl⟩ ht ⟨Nat.le_of_ble_eq_true rfl, Nat.le_of_ble_eq_true rfl⟩ (Nat.le_of_ble_eq_true rfl) ⟨Nat.le_of_ble_eq_true rfl, Nat.le_of_ble_eq_true rfl⟩ ⟨rfl, rfl⟩ rfl d_Md_read_144 (fun x42 σ43 => ?_)
                refine kw_iload_n C d_Md_read_147 rfl ?_
                refine kw_imul C d_Md_read_148 ?_
                refine kw_iload C d_Md_read_149 rfl ?_
                refine kw_iadd C d_Md_read_151 ?_
                refine kw_aload_n C d_Md_read_152 rfl ?_
                refine kw_iload_n C d_Md_read_153 rfl ?_
                refine kw_iload_n C d_Md_read_154 rfl ?_
                refine kw_iload C d_Md_read_155 rfl ?_
                refine kw_callVi (cl' := 0) (sl' := 0) (As := [.int x20, .int x33, .int x38]) C (c_Md_sampleOf hl n ids ht x20 x33 x38 σ43) mi_Md_348 v_Md_sampleOf ⟨_, _, rfl⟩ ht ⟨Nat.le_of_ble_eq_true rfl, Nat.le_of_ble_eq_true rfl⟩ (Nat.le_of_ble_eq_true rfl) ⟨Nat.le_of_ble_eq_true rfl, Nat.le_of_ble_eq_true rfl⟩ ⟨rfl, rfl⟩ rfl d_Md_read_157 (fun x44 σ45 => ?_)
                refine kw_iast C ho41 d_Md_read_160 (fun σ46 => ?_)
                refine kw_iincL (L2 := fun x47 => [some (.ref t), some (.int x17), some (.int x20), some (.int x33), some (.int x47)]) C d_Md_read_161 (by decide) rfl (fun _ => rfl) (fun x47 => ?_)
                refine kw_goto (tgt := 127) C d_Md_read_164 (by decide) ?_
                exact kw_wk (hk37 x47 σ46) ⟨Or.inr rfl, Or.inr rfl, Or.inr rfl, Or.inr rfl, Or.inr rfl, trivial⟩
        · exact kw_wk (hk12 () σ16) ⟨Or.inr rfl, Or.inl rfl, Or.inl rfl, Or.inl rfl, Or.inl rfl, trivial⟩
  · refine kw_aload_n C d_Md_read_22 rfl ?_
    refine kw_getI C fi_Md_94 (Or.inl rfl) ht d_Md_read_23 ?_
    exact kw_iret C Ce rfl (by simp) (fun _ _ => rfl) (Nat.le_of_ble_eq_true rfl) (Nat.le_of_ble_eq_true rfl) rfl d_Md_read_26
/-! Md_fault -/
def rm_Md_fault : Room := { frames := 0, cells := 0, slots := 0, locals := 0 }
def F_Md_fault (n : Nat) (t : Nat) (σ : Mm) : Option (Int32 × Mm) :=
kf_let (pS σ (64 * t + 0) 0) fun σ1 =>
some (gS σ1 (64 * t + 3), σ1)
theorem d_Md_fault_0 : decode prog_14_method_64_code 0 = .ok (.aload_n 0, 1) := by decide +kernel
theorem d_Md_fault_1 : decode prog_14_method_64_code 1 = .ok (.iconst 0, 1) := by decide +kernel
theorem d_Md_fault_2 : decode prog_14_method_64_code 2 = .ok (.putfield 67, 3) := by decide +kernel
theorem d_Md_fault_5 : decode prog_14_method_64_code 5 = .ok (.aload_n 0, 1) := by decide +kernel
theorem d_Md_fault_6 : decode prog_14_method_64_code 6 = .ok (.getfield 91, 3) := by decide +kernel
theorem d_Md_fault_9 : decode prog_14_method_64_code 9 = .ok (.ireturn, 1) := by decide +kernel
set_option maxRecDepth 100000 in
set_option maxHeartbeats 4000000 in
theorem c_Md_fault {l0 : Launch} (hl : l0.stackTraces = false) (n : Nat) (ids : List Nat) {t : Nat} (ht : mm_ok ids t 1 12)  (σ : Mm) : kw_C l0 y_Md_fault (Cond.code y_Md_fault prog_14_method_64_code 1 (some .int) :: kw_Ts) rm_Md_fault kw_oi ids [] [.ref t] σ (F_Md_fault n t σ) := by
  refine kw_start (L0 := [some (.ref t)]) hl (by decide +kernel) (Nat.le_of_ble_eq_true rfl) rfl (fun Γ ad C Ce => ?_)
  unfold F_Md_fault
  refine kw_aload_n C d_Md_fault_0 rfl ?_
  refine kw_iconst (v := 0) C d_Md_fault_1 (by decide) ?_
  refine kw_putI C fi_Md_67 rfl ht d_Md_fault_2 (fun σ1 => ?_)
  refine kw_aload_n C d_Md_fault_5 rfl ?_
  refine kw_getI C fi_Md_91 (Or.inl rfl) ht d_Md_fault_6 ?_
  exact kw_iret C Ce rfl (by simp) (fun _ _ => rfl) (Nat.le_of_ble_eq_true rfl) (Nat.le_of_ble_eq_true rfl) rfl d_Md_fault_9
