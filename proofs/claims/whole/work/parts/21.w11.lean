theorem mi_Md_308 : kw_mi "PictureFileModel" 308 y_Md_left prog_14_method_37_code 5 (some .int) 2 := ⟨(kw_m6 (i := 224) (by decide +kernel) (by decide +kernel)), w_Md_left, in_Md, by decide +kernel, by decide +kernel, by decide +kernel⟩
theorem v_Md_left : Cond.instanceMethod y_Md_left ∈ kw_Ts ∧ Cond.selects y_Md_left.cls y_Md_left y_Md_left ∈ kw_Ts := ⟨(kw_m6 (i := 226) (by decide +kernel) (by decide +kernel)), (kw_sel (i := 64) (by decide +kernel) (by decide +kernel))⟩
theorem mi_Md_311 : kw_mi "PictureFileModel" 311 y_Md_readSteps prog_14_method_56_code 9 (some .boolean) 0 := ⟨(kw_m6 (i := 233) (by decide +kernel) (by decide +kernel)), w_Md_readSteps, in_Md, by decide +kernel, by decide +kernel, by decide +kernel⟩
theorem v_Md_readSteps : Cond.instanceMethod y_Md_readSteps ∈ kw_Ts ∧ Cond.selects y_Md_readSteps.cls y_Md_readSteps y_Md_readSteps ∈ kw_Ts := ⟨(kw_m6 (i := 235) (by decide +kernel) (by decide +kernel)), (kw_sel (i := 66) (by decide +kernel) (by decide +kernel))⟩
theorem mi_Md_305 : kw_mi "PictureFileModel" 305 y_Md_orderOf prog_14_method_54_code 1 (some .int) 1 := ⟨(kw_m6 (i := 221) (by decide +kernel) (by decide +kernel)), w_Md_orderOf, in_Md, by decide +kernel, by decide +kernel, by decide +kernel⟩
theorem s_Md_orderOf : Cond.static y_Md_orderOf ∈ kw_Ts := (kw_m6 (i := 222) (by decide +kernel) (by decide +kernel))
def y_Md_readLengths : MethodName := ⟨"PictureFileModel", "readLengths", "()Z"⟩
theorem w_Md_readLengths : Cond.code y_Md_readLengths prog_14_method_55_code 6 (some .boolean) ∈ kw_Ts := (kw_m6 (i := 220) (by decide +kernel) (by decide +kernel))
def y_Md_moreBits : MethodName := ⟨"PictureFileModel", "moreBits", "(I)I"⟩
theorem w_Md_moreBits : Cond.code y_Md_moreBits prog_14_method_49_code 1 (some .int) ∈ kw_Ts := (kw_m7 (i := 22) (by decide +kernel) (by decide +kernel))
theorem mi_Md_293 : kw_mi "PictureFileModel" 293 y_Md_moreBits prog_14_method_49_code 1 (some .int) 1 := ⟨(kw_m7 (i := 20) (by decide +kernel) (by decide +kernel)), w_Md_moreBits, in_Md, by decide +kernel, by decide +kernel, by decide +kernel⟩
theorem s_Md_moreBits : Cond.static y_Md_moreBits ∈ kw_Ts := (kw_m7 (i := 21) (by decide +kernel) (by decide +kernel))
def y_Md_lengthFrom : MethodName := ⟨"PictureFileModel", "lengthFrom", "(I)I"⟩
theorem w_Md_lengthFrom : Cond.code y_Md_lengthFrom prog_14_method_50_code 3 (some .int) ∈ kw_Ts := (kw_m7 (i := 25) (by decide +kernel) (by decide +kernel))
def y_Md_moreDistance : MethodName := ⟨"PictureFileModel", "moreDistance", "(I)I"⟩
theorem w_Md_moreDistance : Cond.code y_Md_moreDistance prog_14_method_51_code 1 (some .int) ∈ kw_Ts := (kw_m7 (i := 28) (by decide +kernel) (by decide +kernel))
theorem mi_Md_296 : kw_mi "PictureFileModel" 296 y_Md_moreDistance prog_14_method_51_code 1 (some .int) 1 := ⟨(kw_m7 (i := 26) (by decide +kernel) (by decide +kernel)), w_Md_moreDistance, in_Md, by decide +kernel, by decide +kernel, by decide +kernel⟩
theorem s_Md_moreDistance : Cond.static y_Md_moreDistance ∈ kw_Ts := (kw_m7 (i := 27) (by decide +kernel) (by decide +kernel))
def y_Md_distanceFrom : MethodName := ⟨"PictureFileModel", "distanceFrom", "(I)I"⟩
theorem w_Md_distanceFrom : Cond.code y_Md_distanceFrom prog_14_method_52_code 3 (some .int) ∈ kw_Ts := (kw_m7 (i := 31) (by decide +kernel) (by decide +kernel))
theorem mi_Md_299 : kw_mi "PictureFileModel" 299 y_Md_lengthFrom prog_14_method_50_code 3 (some .int) 1 := ⟨(kw_m7 (i := 23) (by decide +kernel) (by decide +kernel)), w_Md_lengthFrom, in_Md, by decide +kernel, by decide +kernel, by decide +kernel⟩
theorem s_Md_lengthFrom : Cond.static y_Md_lengthFrom ∈ kw_Ts := (kw_m7 (i := 24) (by decide +kernel) (by decide +kernel))
theorem mi_Md_302 : kw_mi "PictureFileModel" 302 y_Md_distanceFrom prog_14_method_52_code 3 (some .int) 1 := ⟨(kw_m7 (i := 29) (by decide +kernel) (by decide +kernel)), w_Md_distanceFrom, in_Md, by decide +kernel, by decide +kernel, by decide +kernel⟩
theorem s_Md_distanceFrom : Cond.static y_Md_distanceFrom ∈ kw_Ts := (kw_m7 (i := 30) (by decide +kernel) (by decide +kernel))
theorem fi_Md_243 : kw_fi "PictureFileModel" 243 12 44 false := ⟨mmR_12, mmT_12, 57, rfl, rfl, by decide, mmI_12, mmY_12, mmN_12, rfl, (kw_m5 (i := 187) (by decide +kernel) (by decide +kernel))⟩
def y_Md_copy : MethodName := ⟨"PictureFileModel", "copy", "(II)Z"⟩
theorem w_Md_copy : Cond.code y_Md_copy prog_14_method_53_code 8 (some .boolean) ∈ kw_Ts := (kw_m7 (i := 19) (by decide +kernel) (by decide +kernel))
def y_Md_single : MethodName := ⟨"PictureFileModel", "single", "(II)Z"⟩
theorem w_Md_single : Cond.code y_Md_single prog_14_method_48_code 3 (some .boolean) ∈ kw_Ts := (kw_m7 (i := 35) (by decide +kernel) (by decide +kernel))
theorem mi_Md_290 : kw_mi "PictureFileModel" 290 y_Md_single prog_14_method_48_code 3 (some .boolean) 2 := ⟨(kw_m7 (i := 32) (by decide +kernel) (by decide +kernel)), w_Md_single, in_Md, by decide +kernel, by decide +kernel, by decide +kernel⟩
theorem v_Md_single : Cond.instanceMethod y_Md_single ∈ kw_Ts ∧ Cond.selects y_Md_single.cls y_Md_single y_Md_single ∈ kw_Ts := ⟨(kw_m7 (i := 34) (by decide +kernel) (by decide +kernel)), (kw_sel (i := 72) (by decide +kernel) (by decide +kernel))⟩
theorem mi_Md_287 : kw_mi "PictureFileModel" 287 y_Md_copy prog_14_method_53_code 8 (some .boolean) 2 := ⟨(kw_m7 (i := 16) (by decide +kernel) (by decide +kernel)), w_Md_copy, in_Md, by decide +kernel, by decide +kernel, by decide +kernel⟩
theorem v_Md_copy : Cond.instanceMethod y_Md_copy ∈ kw_Ts ∧ Cond.selects y_Md_copy.cls y_Md_copy y_Md_copy ∈ kw_Ts := ⟨(kw_m7 (i := 18) (by decide +kernel) (by decide +kernel)), (kw_sel (i := 71) (by decide +kernel) (by decide +kernel))⟩
theorem mi_Md_275 : kw_mi "PictureFileModel" 275 y_Md_readLengths prog_14_method_55_code 6 (some .boolean) 0 := ⟨(kw_m6 (i := 217) (by decide +kernel) (by decide +kernel)), w_Md_readLengths, in_Md, by decide +kernel, by decide +kernel, by decide +kernel⟩
theorem v_Md_readLengths : Cond.instanceMethod y_Md_readLengths ∈ kw_Ts ∧ Cond.selects y_Md_readLengths.cls y_Md_readLengths y_Md_readLengths ∈ kw_Ts := ⟨(kw_m6 (i := 219) (by decide +kernel) (by decide +kernel)), (kw_sel (i := 63) (by decide +kernel) (by decide +kernel))⟩
def y_Md_readBlock : MethodName := ⟨"PictureFileModel", "readBlock", "(Z)Z"⟩
theorem w_Md_readBlock : Cond.code y_Md_readBlock prog_14_method_47_code 5 (some .boolean) ∈ kw_Ts := (kw_m6 (i := 216) (by decide +kernel) (by decide +kernel))
theorem k_Md_272 : Cond.constantLong "PictureFileModel" 272 65536 ∈ kw_Ts := (kw_m7 (i := 46) (by decide +kernel) (by decide +kernel))
theorem k_Md_270 : Cond.constantLong "PictureFileModel" 270 65521 ∈ kw_Ts := (kw_m7 (i := 45) (by decide +kernel) (by decide +kernel))
def y_Md_sumOf : MethodName := ⟨"PictureFileModel", "sumOf", "(I)J"⟩
theorem w_Md_sumOf : Cond.code y_Md_sumOf prog_14_method_45_code 7 (some .long) ∈ kw_Ts := (kw_m7 (i := 44) (by decide +kernel) (by decide +kernel))
theorem mi_Md_267 : kw_mi "PictureFileModel" 267 y_Md_sumOf prog_14_method_45_code 7 (some .long) 1 := ⟨(kw_m7 (i := 41) (by decide +kernel) (by decide +kernel)), w_Md_sumOf, in_Md, by decide +kernel, by decide +kernel, by decide +kernel⟩
theorem v_Md_sumOf : Cond.instanceMethod y_Md_sumOf ∈ kw_Ts ∧ Cond.selects y_Md_sumOf.cls y_Md_sumOf y_Md_sumOf ∈ kw_Ts := ⟨(kw_m7 (i := 43) (by decide +kernel) (by decide +kernel)), (kw_sel (i := 74) (by decide +kernel) (by decide +kernel))⟩
theorem k_Md_265 : Cond.constantLong "PictureFileModel" 265 256 ∈ kw_Ts := (kw_m7 (i := 40) (by decide +kernel) (by decide +kernel))
def y_Md_readSum : MethodName := ⟨"PictureFileModel", "readSum", "()Z"⟩
theorem w_Md_readSum : Cond.code y_Md_readSum prog_14_method_44_code 5 (some .boolean) ∈ kw_Ts := (kw_m7 (i := 39) (by decide +kernel) (by decide +kernel))
/-! Md_readLengths -/
def rm_Md_readLengths : Room := { frames := 5, cells := 0, slots := 0, locals := 124 }
def F_Md_readLengths (n : Nat) (t : Nat) (σ : Mm) : Option (Int32 × Mm) :=
kf_c2 (F_Md_hasBits n t 5 σ) fun x1 σ2 =>
if x1 = 0 then (
kf_z 0 (some (0, σ2))) else (
kf_let (gJ σ2 (64 * t + 43) : Int64) fun x3 =>
kf_c2 (F_Md_bits n t 5 σ2) fun x4 σ5 =>
kf_let (pS σ5 (64 * t + 47) ((257 : Int32) + x4)) fun σ6 =>
if (gS σ6 (64 * t + 47)) ≤ 286 then (
kf_c2 (F_Md_hasBits n t 5 σ6) fun x7 σ8 =>
if x7 = 0 then (
kf_z 0 (some (0, σ8))) else (
kf_let (gJ σ8 (64 * t + 43) : Int64) fun x9 =>
kf_c2 (F_Md_bits n t 5 σ8) fun x10 σ11 =>
kf_let (pS σ11 (64 * t + 48) ((1 : Int32) + x10)) fun σ12 =>
if (gS σ12 (64 * t + 48)) ≤ 30 then (
kf_c2 (F_Md_hasBits n t 4 σ12) fun x13 σ14 =>
if x13 = 0 then (
kf_z 0 (some (0, σ14))) else (
kf_c2 (F_Md_bits n t 4 σ14) fun x15 σ16 =>
kf_let ((4 : Int32) + x15 : Int32) fun x17 =>
kf_let (gJ σ16 (64 * t + 43) : Int64) fun x18 =>
kf_l (α := Int32) n (fun k19 x20 σ21 =>
if 19 ≤ x20 then (
kf_l (α := Int32) n (fun k22 x23 σ24 =>
if x17 ≤ x23 then (
kf_c2 (F_Md_left n t 0 19 σ24) fun x25 σ26 =>
if x25 = 0 then (
kf_c2 (F_Md_readSteps n t σ26) fun x27 σ28 =>
if x27 = 0 then (
kf_z 0 (some (0, σ28))) else (
kf_l (α := Int32) n (fun k29 x30 σ31 =>
if ((gS σ31 (64 * t + 47)) + (gS σ31 (64 * t + 48))) ≤ x30 then (
kf_c2 (F_Md_many n t (gS σ31 (64 * t + 47)) (gS σ31 (64 * t + 48)) 1 σ31) fun x32 σ33 =>
kf_j (α := Int32) (fun x35 σ36 =>
kf_c2 (F_Md_left n t 0 (gS σ36 (64 * t + 47)) σ36) fun x37 σ38 =>
kf_j (α := Int32) (fun x40 σ41 =>
kf_j (α := Int32) (fun x43 σ44 =>
kf_z x43 (some (x43, σ44))) fun k42 =>
kf_j (α := Unit) (fun x46 σ47 =>
k42 1 σ47) fun k45 =>
if x40 = 0 then (
kf_c2 (F_Md_placeOf n t (gJ σ41 (64 * t + 43)) σ41) fun x48 σ49 =>
kf_c2 (F_Md_flaw n t 24 x48 σ49) fun x50 σ51 =>
if x50 = 0 then (
k42 0 σ51) else (
k45 () σ51)) else (
k45 () σ41)) fun k39 =>
kf_j (α := Unit) (fun x53 σ54 =>
k39 0 σ54) fun k52 =>
if x37 = 0 then (
Option.bind (gR σ38 (64 * t + 45)) fun o55 =>
kf_in 256 (mm_kd o55).2.2 <|
if (gB σ38 o55 (256 : Int32).toNatClampNeg) ≤ 0 then (
k52 () σ38) else (
kf_c2 (F_Md_left n t (gS σ38 (64 * t + 47)) (gS σ38 (64 * t + 48)) σ38) fun x56 σ57 =>
kf_j (α := Unit) (fun x59 σ60 =>
k39 1 σ60) fun k58 =>
if x56 = 0 then (
k58 () σ57) else (
if x35 = 0 then (
kf_c2 (F_Md_left n t (gS σ57 (64 * t + 47)) (gS σ57 (64 * t + 48)) σ57) fun x61 σ62 =>
if x61 = 32768 then (
k58 () σ62) else (
k52 () σ62)) else (
k58 () σ57)))) else (
k52 () σ38)) fun k34 =>
kf_j (α := Unit) (fun x64 σ65 =>
k34 0 σ65) fun k63 =>
if x32 = 1 then (
kf_c2 (F_Md_left n t (gS σ33 (64 * t + 47)) (gS σ33 (64 * t + 48)) σ33) fun x66 σ67 =>
if x66 = 16384 then (
k34 1 σ67) else (
k63 () σ67)) else (
k63 () σ33)) else (
Option.bind (gR σ31 (64 * t + 45)) fun o68 =>
Option.bind (gR σ31 (64 * t + 46)) fun o69 =>
kf_in x30 (mm_kd o69).2.2 <|
kf_in x30 (mm_kd o68).2.2 <| kf_let (pB σ31 o68 x30.toNatClampNeg (gB σ31 o69 x30.toNatClampNeg)) fun σ70 =>
kf_let (x30 + Int32.ofInt 1) fun x71 =>
k29 x71 σ70)) 0 σ28)) else (
kf_c2 (F_Md_placeOf n t x18 σ26) fun x72 σ73 =>
kf_c2 (F_Md_flaw n t 24 x72 σ73) fun x74 σ75 =>
kf_z x74 (some (x74, σ75)))) else (
kf_c2 (F_Md_hasBits n t 3 σ24) fun x76 σ77 =>
if x76 = 0 then (
kf_z 0 (some (0, σ77))) else (
Option.bind (gR σ77 (64 * t + 45)) fun o78 =>
kf_c2 (F_Md_orderOf n x23 σ77) fun x79 σ80 =>
kf_c2 (F_Md_bits n t 3 σ80) fun x81 σ82 =>
kf_in x79 (mm_kd o78).2.2 <| kf_let (pB σ82 o78 x79.toNatClampNeg x81) fun σ83 =>
kf_let (x23 + Int32.ofInt 1) fun x84 =>
k22 x84 σ83))) 0 σ21) else (
Option.bind (gR σ21 (64 * t + 45)) fun o85 =>
kf_in x20 (mm_kd o85).2.2 <| kf_let (pB σ21 o85 x20.toNatClampNeg 0) fun σ86 =>
kf_let (x20 + Int32.ofInt 1) fun x87 =>
k19 x87 σ86)) 0 σ16)) else (
kf_c2 (F_Md_placeOf n t x9 σ12) fun x88 σ89 =>
kf_c2 (F_Md_flaw n t 24 x88 σ89) fun x90 σ91 =>
kf_z x90 (some (x90, σ91))))) else (
kf_c2 (F_Md_placeOf n t x3 σ6) fun x92 σ93 =>
kf_c2 (F_Md_flaw n t 24 x92 σ93) fun x94 σ95 =>
kf_z x94 (some (x94, σ95))))
theorem d_Md_readLengths_0 : decode prog_14_method_55_code 0 = .ok (.aload_n 0, 1) := by decide +kernel
theorem d_Md_readLengths_1 : decode prog_14_method_55_code 1 = .ok (.iconst 5, 1) := by decide +kernel
theorem d_Md_readLengths_2 : decode prog_14_method_55_code 2 = .ok (.invokevirtual 223, 3) := by decide +kernel
theorem d_Md_readLengths_5 : decode prog_14_method_55_code 5 = .ok (.ifCond .ne 5, 3) := by decide +kernel
theorem d_Md_readLengths_8 : decode prog_14_method_55_code 8 = .ok (.iconst 0, 1) := by decide +kernel
theorem d_Md_readLengths_9 : decode prog_14_method_55_code 9 = .ok (.ireturn, 1) := by decide +kernel
theorem d_Md_readLengths_10 : decode prog_14_method_55_code 10 = .ok (.aload_n 0, 1) := by decide +kernel
theorem d_Md_readLengths_11 : decode prog_14_method_55_code 11 = .ok (.getfield 201, 3) := by decide +kernel
theorem d_Md_readLengths_14 : decode prog_14_method_55_code 14 = .ok (.lstore_n 1, 1) := by decide +kernel
theorem d_Md_readLengths_15 : decode prog_14_method_55_code 15 = .ok (.aload_n 0, 1) := by decide +kernel
theorem d_Md_readLengths_16 : decode prog_14_method_55_code 16 = .ok (.sipush 257, 3) := by decide +kernel
theorem d_Md_readLengths_19 : decode prog_14_method_55_code 19 = .ok (.aload_n 0, 1) := by decide +kernel
theorem d_Md_readLengths_20 : decode prog_14_method_55_code 20 = .ok (.iconst 5, 1) := by decide +kernel
theorem d_Md_readLengths_21 : decode prog_14_method_55_code 21 = .ok (.invokevirtual 226, 3) := by decide +kernel
theorem d_Md_readLengths_24 : decode prog_14_method_55_code 24 = .ok (.iadd, 1) := by decide +kernel
theorem d_Md_readLengths_25 : decode prog_14_method_55_code 25 = .ok (.putfield 278, 3) := by decide +kernel
theorem d_Md_readLengths_28 : decode prog_14_method_55_code 28 = .ok (.aload_n 0, 1) := by decide +kernel
theorem d_Md_readLengths_29 : decode prog_14_method_55_code 29 = .ok (.getfield 278, 3) := by decide +kernel
theorem d_Md_readLengths_32 : decode prog_14_method_55_code 32 = .ok (.sipush 286, 3) := by decide +kernel
theorem d_Md_readLengths_35 : decode prog_14_method_55_code 35 = .ok (.if_icmp .le 15, 3) := by decide +kernel
theorem d_Md_readLengths_38 : decode prog_14_method_55_code 38 = .ok (.aload_n 0, 1) := by decide +kernel
theorem d_Md_readLengths_39 : decode prog_14_method_55_code 39 = .ok (.bipush 24, 2) := by decide +kernel
theorem d_Md_readLengths_41 : decode prog_14_method_55_code 41 = .ok (.aload_n 0, 1) := by decide +kernel
theorem d_Md_readLengths_42 : decode prog_14_method_55_code 42 = .ok (.lload_n 1, 1) := by decide +kernel
theorem d_Md_readLengths_43 : decode prog_14_method_55_code 43 = .ok (.invokevirtual 236, 3) := by decide +kernel
theorem d_Md_readLengths_46 : decode prog_14_method_55_code 46 = .ok (.invokevirtual 122, 3) := by decide +kernel
theorem d_Md_readLengths_49 : decode prog_14_method_55_code 49 = .ok (.ireturn, 1) := by decide +kernel
theorem d_Md_readLengths_50 : decode prog_14_method_55_code 50 = .ok (.aload_n 0, 1) := by decide +kernel
theorem d_Md_readLengths_51 : decode prog_14_method_55_code 51 = .ok (.iconst 5, 1) := by decide +kernel
theorem d_Md_readLengths_52 : decode prog_14_method_55_code 52 = .ok (.invokevirtual 223, 3) := by decide +kernel
theorem d_Md_readLengths_55 : decode prog_14_method_55_code 55 = .ok (.ifCond .ne 5, 3) := by decide +kernel
theorem d_Md_readLengths_58 : decode prog_14_method_55_code 58 = .ok (.iconst 0, 1) := by decide +kernel
theorem d_Md_readLengths_59 : decode prog_14_method_55_code 59 = .ok (.ireturn, 1) := by decide +kernel
theorem d_Md_readLengths_60 : decode prog_14_method_55_code 60 = .ok (.aload_n 0, 1) := by decide +kernel
theorem d_Md_readLengths_61 : decode prog_14_method_55_code 61 = .ok (.getfield 201, 3) := by decide +kernel
theorem d_Md_readLengths_64 : decode prog_14_method_55_code 64 = .ok (.lstore_n 1, 1) := by decide +kernel
theorem d_Md_readLengths_65 : decode prog_14_method_55_code 65 = .ok (.aload_n 0, 1) := by decide +kernel
theorem d_Md_readLengths_66 : decode prog_14_method_55_code 66 = .ok (.iconst 1, 1) := by decide +kernel
theorem d_Md_readLengths_67 : decode prog_14_method_55_code 67 = .ok (.aload_n 0, 1) := by decide +kernel
theorem d_Md_readLengths_68 : decode prog_14_method_55_code 68 = .ok (.iconst 5, 1) := by decide +kernel
theorem d_Md_readLengths_69 : decode prog_14_method_55_code 69 = .ok (.invokevirtual 226, 3) := by decide +kernel
theorem d_Md_readLengths_72 : decode prog_14_method_55_code 72 = .ok (.iadd, 1) := by decide +kernel
theorem d_Md_readLengths_73 : decode prog_14_method_55_code 73 = .ok (.putfield 281, 3) := by decide +kernel
theorem d_Md_readLengths_76 : decode prog_14_method_55_code 76 = .ok (.aload_n 0, 1) := by decide +kernel
theorem d_Md_readLengths_77 : decode prog_14_method_55_code 77 = .ok (.getfield 281, 3) := by decide +kernel
theorem d_Md_readLengths_80 : decode prog_14_method_55_code 80 = .ok (.bipush 30, 2) := by decide +kernel
theorem d_Md_readLengths_82 : decode prog_14_method_55_code 82 = .ok (.if_icmp .le 15, 3) := by decide +kernel
theorem d_Md_readLengths_85 : decode prog_14_method_55_code 85 = .ok (.aload_n 0, 1) := by decide +kernel
theorem d_Md_readLengths_86 : decode prog_14_method_55_code 86 = .ok (.bipush 24, 2) := by decide +kernel
theorem d_Md_readLengths_88 : decode prog_14_method_55_code 88 = .ok (.aload_n 0, 1) := by decide +kernel
theorem d_Md_readLengths_89 : decode prog_14_method_55_code 89 = .ok (.lload_n 1, 1) := by decide +kernel
theorem d_Md_readLengths_90 : decode prog_14_method_55_code 90 = .ok (.invokevirtual 236, 3) := by decide +kernel
theorem d_Md_readLengths_93 : decode prog_14_method_55_code 93 = .ok (.invokevirtual 122, 3) := by decide +kernel
theorem d_Md_readLengths_96 : decode prog_14_method_55_code 96 = .ok (.ireturn, 1) := by decide +kernel
theorem d_Md_readLengths_97 : decode prog_14_method_55_code 97 = .ok (.aload_n 0, 1) := by decide +kernel
theorem d_Md_readLengths_98 : decode prog_14_method_55_code 98 = .ok (.iconst 4, 1) := by decide +kernel
theorem d_Md_readLengths_99 : decode prog_14_method_55_code 99 = .ok (.invokevirtual 223, 3) := by decide +kernel
theorem d_Md_readLengths_102 : decode prog_14_method_55_code 102 = .ok (.ifCond .ne 5, 3) := by decide +kernel
theorem d_Md_readLengths_105 : decode prog_14_method_55_code 105 = .ok (.iconst 0, 1) := by decide +kernel
theorem d_Md_readLengths_106 : decode prog_14_method_55_code 106 = .ok (.ireturn, 1) := by decide +kernel
theorem d_Md_readLengths_107 : decode prog_14_method_55_code 107 = .ok (.iconst 4, 1) := by decide +kernel
theorem d_Md_readLengths_108 : decode prog_14_method_55_code 108 = .ok (.aload_n 0, 1) := by decide +kernel
theorem d_Md_readLengths_109 : decode prog_14_method_55_code 109 = .ok (.iconst 4, 1) := by decide +kernel
theorem d_Md_readLengths_110 : decode prog_14_method_55_code 110 = .ok (.invokevirtual 226, 3) := by decide +kernel
theorem d_Md_readLengths_113 : decode prog_14_method_55_code 113 = .ok (.iadd, 1) := by decide +kernel
theorem d_Md_readLengths_114 : decode prog_14_method_55_code 114 = .ok (.istore_n 3, 1) := by decide +kernel
theorem d_Md_readLengths_115 : decode prog_14_method_55_code 115 = .ok (.aload_n 0, 1) := by decide +kernel
theorem d_Md_readLengths_116 : decode prog_14_method_55_code 116 = .ok (.getfield 201, 3) := by decide +kernel
theorem d_Md_readLengths_119 : decode prog_14_method_55_code 119 = .ok (.lstore_n 1, 1) := by decide +kernel
theorem d_Md_readLengths_120 : decode prog_14_method_55_code 120 = .ok (.iconst 0, 1) := by decide +kernel
theorem d_Md_readLengths_121 : decode prog_14_method_55_code 121 = .ok (.istore 4, 2) := by decide +kernel
theorem d_Md_readLengths_123 : decode prog_14_method_55_code 123 = .ok (.iload 4, 2) := by decide +kernel
theorem d_Md_readLengths_125 : decode prog_14_method_55_code 125 = .ok (.bipush 19, 2) := by decide +kernel
theorem d_Md_readLengths_127 : decode prog_14_method_55_code 127 = .ok (.if_icmp .ge 17, 3) := by decide +kernel
theorem d_Md_readLengths_130 : decode prog_14_method_55_code 130 = .ok (.aload_n 0, 1) := by decide +kernel
theorem d_Md_readLengths_131 : decode prog_14_method_55_code 131 = .ok (.getfield 58, 3) := by decide +kernel
theorem d_Md_readLengths_134 : decode prog_14_method_55_code 134 = .ok (.iload 4, 2) := by decide +kernel
theorem d_Md_readLengths_136 : decode prog_14_method_55_code 136 = .ok (.iconst 0, 1) := by decide +kernel
theorem d_Md_readLengths_137 : decode prog_14_method_55_code 137 = .ok (.iastore, 1) := by decide +kernel
theorem d_Md_readLengths_138 : decode prog_14_method_55_code 138 = .ok (.iinc 4 1, 3) := by decide +kernel
theorem d_Md_readLengths_141 : decode prog_14_method_55_code 141 = .ok (.goto (-18), 3) := by decide +kernel
theorem d_Md_readLengths_144 : decode prog_14_method_55_code 144 = .ok (.iconst 0, 1) := by decide +kernel
theorem d_Md_readLengths_145 : decode prog_14_method_55_code 145 = .ok (.istore 4, 2) := by decide +kernel
theorem d_Md_readLengths_147 : decode prog_14_method_55_code 147 = .ok (.iload 4, 2) := by decide +kernel
theorem d_Md_readLengths_149 : decode prog_14_method_55_code 149 = .ok (.iload_n 3, 1) := by decide +kernel
theorem d_Md_readLengths_150 : decode prog_14_method_55_code 150 = .ok (.if_icmp .ge 34, 3) := by decide +kernel
theorem d_Md_readLengths_153 : decode prog_14_method_55_code 153 = .ok (.aload_n 0, 1) := by decide +kernel
theorem d_Md_readLengths_154 : decode prog_14_method_55_code 154 = .ok (.iconst 3, 1) := by decide +kernel
theorem d_Md_readLengths_155 : decode prog_14_method_55_code 155 = .ok (.invokevirtual 223, 3) := by decide +kernel
theorem d_Md_readLengths_158 : decode prog_14_method_55_code 158 = .ok (.ifCond .ne 5, 3) := by decide +kernel
theorem d_Md_readLengths_161 : decode prog_14_method_55_code 161 = .ok (.iconst 0, 1) := by decide +kernel
theorem d_Md_readLengths_162 : decode prog_14_method_55_code 162 = .ok (.ireturn, 1) := by decide +kernel
theorem d_Md_readLengths_163 : decode prog_14_method_55_code 163 = .ok (.aload_n 0, 1) := by decide +kernel
theorem d_Md_readLengths_164 : decode prog_14_method_55_code 164 = .ok (.getfield 58, 3) := by decide +kernel
theorem d_Md_readLengths_167 : decode prog_14_method_55_code 167 = .ok (.iload 4, 2) := by decide +kernel
theorem d_Md_readLengths_169 : decode prog_14_method_55_code 169 = .ok (.invokestatic 305, 3) := by decide +kernel
theorem d_Md_readLengths_172 : decode prog_14_method_55_code 172 = .ok (.aload_n 0, 1) := by decide +kernel
theorem d_Md_readLengths_173 : decode prog_14_method_55_code 173 = .ok (.iconst 3, 1) := by decide +kernel
theorem d_Md_readLengths_174 : decode prog_14_method_55_code 174 = .ok (.invokevirtual 226, 3) := by decide +kernel
theorem d_Md_readLengths_177 : decode prog_14_method_55_code 177 = .ok (.iastore, 1) := by decide +kernel
theorem d_Md_readLengths_178 : decode prog_14_method_55_code 178 = .ok (.iinc 4 1, 3) := by decide +kernel
theorem d_Md_readLengths_181 : decode prog_14_method_55_code 181 = .ok (.goto (-34), 3) := by decide +kernel
theorem d_Md_readLengths_184 : decode prog_14_method_55_code 184 = .ok (.aload_n 0, 1) := by decide +kernel
theorem d_Md_readLengths_185 : decode prog_14_method_55_code 185 = .ok (.iconst 0, 1) := by decide +kernel
theorem d_Md_readLengths_186 : decode prog_14_method_55_code 186 = .ok (.bipush 19, 2) := by decide +kernel
theorem d_Md_readLengths_188 : decode prog_14_method_55_code 188 = .ok (.invokevirtual 308, 3) := by decide +kernel
theorem d_Md_readLengths_191 : decode prog_14_method_55_code 191 = .ok (.ifCond .eq 15, 3) := by decide +kernel
theorem d_Md_readLengths_194 : decode prog_14_method_55_code 194 = .ok (.aload_n 0, 1) := by decide +kernel
theorem d_Md_readLengths_195 : decode prog_14_method_55_code 195 = .ok (.bipush 24, 2) := by decide +kernel
theorem d_Md_readLengths_197 : decode prog_14_method_55_code 197 = .ok (.aload_n 0, 1) := by decide +kernel
theorem d_Md_readLengths_198 : decode prog_14_method_55_code 198 = .ok (.lload_n 1, 1) := by decide +kernel
theorem d_Md_readLengths_199 : decode prog_14_method_55_code 199 = .ok (.invokevirtual 236, 3) := by decide +kernel
theorem d_Md_readLengths_202 : decode prog_14_method_55_code 202 = .ok (.invokevirtual 122, 3) := by decide +kernel
theorem d_Md_readLengths_205 : decode prog_14_method_55_code 205 = .ok (.ireturn, 1) := by decide +kernel
theorem d_Md_readLengths_206 : decode prog_14_method_55_code 206 = .ok (.aload_n 0, 1) := by decide +kernel
theorem d_Md_readLengths_207 : decode prog_14_method_55_code 207 = .ok (.invokevirtual 311, 3) := by decide +kernel
theorem d_Md_readLengths_210 : decode prog_14_method_55_code 210 = .ok (.ifCond .ne 5, 3) := by decide +kernel
theorem d_Md_readLengths_213 : decode prog_14_method_55_code 213 = .ok (.iconst 0, 1) := by decide +kernel
theorem d_Md_readLengths_214 : decode prog_14_method_55_code 214 = .ok (.ireturn, 1) := by decide +kernel
theorem d_Md_readLengths_215 : decode prog_14_method_55_code 215 = .ok (.iconst 0, 1) := by decide +kernel
theorem d_Md_readLengths_216 : decode prog_14_method_55_code 216 = .ok (.istore 4, 2) := by decide +kernel
theorem d_Md_readLengths_218 : decode prog_14_method_55_code 218 = .ok (.iload 4, 2) := by decide +kernel
theorem d_Md_readLengths_220 : decode prog_14_method_55_code 220 = .ok (.aload_n 0, 1) := by decide +kernel
theorem d_Md_readLengths_221 : decode prog_14_method_55_code 221 = .ok (.getfield 278, 3) := by decide +kernel
theorem d_Md_readLengths_224 : decode prog_14_method_55_code 224 = .ok (.aload_n 0, 1) := by decide +kernel
theorem d_Md_readLengths_225 : decode prog_14_method_55_code 225 = .ok (.getfield 281, 3) := by decide +kernel
theorem d_Md_readLengths_228 : decode prog_14_method_55_code 228 = .ok (.iadd, 1) := by decide +kernel
theorem d_Md_readLengths_229 : decode prog_14_method_55_code 229 = .ok (.if_icmp .ge 23, 3) := by decide +kernel
theorem d_Md_readLengths_232 : decode prog_14_method_55_code 232 = .ok (.aload_n 0, 1) := by decide +kernel
theorem d_Md_readLengths_233 : decode prog_14_method_55_code 233 = .ok (.getfield 58, 3) := by decide +kernel
theorem d_Md_readLengths_236 : decode prog_14_method_55_code 236 = .ok (.iload 4, 2) := by decide +kernel
theorem d_Md_readLengths_238 : decode prog_14_method_55_code 238 = .ok (.aload_n 0, 1) := by decide +kernel
theorem d_Md_readLengths_239 : decode prog_14_method_55_code 239 = .ok (.getfield 61, 3) := by decide +kernel
theorem d_Md_readLengths_242 : decode prog_14_method_55_code 242 = .ok (.iload 4, 2) := by decide +kernel
theorem d_Md_readLengths_244 : decode prog_14_method_55_code 244 = .ok (.iaload, 1) := by decide +kernel
theorem d_Md_readLengths_245 : decode prog_14_method_55_code 245 = .ok (.iastore, 1) := by decide +kernel
theorem d_Md_readLengths_246 : decode prog_14_method_55_code 246 = .ok (.iinc 4 1, 3) := by decide +kernel
theorem d_Md_readLengths_249 : decode prog_14_method_55_code 249 = .ok (.goto (-31), 3) := by decide +kernel
theorem d_Md_readLengths_252 : decode prog_14_method_55_code 252 = .ok (.aload_n 0, 1) := by decide +kernel
theorem d_Md_readLengths_253 : decode prog_14_method_55_code 253 = .ok (.aload_n 0, 1) := by decide +kernel
theorem d_Md_readLengths_254 : decode prog_14_method_55_code 254 = .ok (.getfield 278, 3) := by decide +kernel
theorem d_Md_readLengths_257 : decode prog_14_method_55_code 257 = .ok (.aload_n 0, 1) := by decide +kernel
theorem d_Md_readLengths_258 : decode prog_14_method_55_code 258 = .ok (.getfield 281, 3) := by decide +kernel
theorem d_Md_readLengths_261 : decode prog_14_method_55_code 261 = .ok (.iconst 1, 1) := by decide +kernel
theorem d_Md_readLengths_262 : decode prog_14_method_55_code 262 = .ok (.invokevirtual 206, 3) := by decide +kernel
theorem d_Md_readLengths_265 : decode prog_14_method_55_code 265 = .ok (.iconst 1, 1) := by decide +kernel
theorem d_Md_readLengths_266 : decode prog_14_method_55_code 266 = .ok (.if_icmp .ne 25, 3) := by decide +kernel
theorem d_Md_readLengths_269 : decode prog_14_method_55_code 269 = .ok (.aload_n 0, 1) := by decide +kernel
theorem d_Md_readLengths_270 : decode prog_14_method_55_code 270 = .ok (.aload_n 0, 1) := by decide +kernel
theorem d_Md_readLengths_271 : decode prog_14_method_55_code 271 = .ok (.getfield 278, 3) := by decide +kernel
theorem d_Md_readLengths_274 : decode prog_14_method_55_code 274 = .ok (.aload_n 0, 1) := by decide +kernel
theorem d_Md_readLengths_275 : decode prog_14_method_55_code 275 = .ok (.getfield 281, 3) := by decide +kernel
theorem d_Md_readLengths_278 : decode prog_14_method_55_code 278 = .ok (.invokevirtual 308, 3) := by decide +kernel
theorem d_Md_readLengths_281 : decode prog_14_method_55_code 281 = .ok (.sipush 16384, 3) := by decide +kernel
theorem d_Md_readLengths_284 : decode prog_14_method_55_code 284 = .ok (.if_icmp .ne 7, 3) := by decide +kernel
theorem d_Md_readLengths_287 : decode prog_14_method_55_code 287 = .ok (.iconst 1, 1) := by decide +kernel
theorem d_Md_readLengths_288 : decode prog_14_method_55_code 288 = .ok (.goto 4, 3) := by decide +kernel
theorem d_Md_readLengths_291 : decode prog_14_method_55_code 291 = .ok (.iconst 0, 1) := by decide +kernel
theorem d_Md_readLengths_292 : decode prog_14_method_55_code 292 = .ok (.istore 4, 2) := by decide +kernel
theorem d_Md_readLengths_294 : decode prog_14_method_55_code 294 = .ok (.aload_n 0, 1) := by decide +kernel
theorem d_Md_readLengths_295 : decode prog_14_method_55_code 295 = .ok (.iconst 0, 1) := by decide +kernel
theorem d_Md_readLengths_296 : decode prog_14_method_55_code 296 = .ok (.aload_n 0, 1) := by decide +kernel
theorem d_Md_readLengths_297 : decode prog_14_method_55_code 297 = .ok (.getfield 278, 3) := by decide +kernel
theorem d_Md_readLengths_300 : decode prog_14_method_55_code 300 = .ok (.invokevirtual 308, 3) := by decide +kernel
theorem d_Md_readLengths_303 : decode prog_14_method_55_code 303 = .ok (.ifCond .ne 55, 3) := by decide +kernel
theorem d_Md_readLengths_306 : decode prog_14_method_55_code 306 = .ok (.aload_n 0, 1) := by decide +kernel
theorem d_Md_readLengths_307 : decode prog_14_method_55_code 307 = .ok (.getfield 58, 3) := by decide +kernel
theorem d_Md_readLengths_310 : decode prog_14_method_55_code 310 = .ok (.sipush 256, 3) := by decide +kernel
theorem d_Md_readLengths_313 : decode prog_14_method_55_code 313 = .ok (.iaload, 1) := by decide +kernel
theorem d_Md_readLengths_314 : decode prog_14_method_55_code 314 = .ok (.ifCond .le 44, 3) := by decide +kernel
theorem d_Md_readLengths_317 : decode prog_14_method_55_code 317 = .ok (.aload_n 0, 1) := by decide +kernel
theorem d_Md_readLengths_318 : decode prog_14_method_55_code 318 = .ok (.aload_n 0, 1) := by decide +kernel
theorem d_Md_readLengths_319 : decode prog_14_method_55_code 319 = .ok (.getfield 278, 3) := by decide +kernel
theorem d_Md_readLengths_322 : decode prog_14_method_55_code 322 = .ok (.aload_n 0, 1) := by decide +kernel
theorem d_Md_readLengths_323 : decode prog_14_method_55_code 323 = .ok (.getfield 281, 3) := by decide +kernel
theorem d_Md_readLengths_326 : decode prog_14_method_55_code 326 = .ok (.invokevirtual 308, 3) := by decide +kernel
theorem d_Md_readLengths_329 : decode prog_14_method_55_code 329 = .ok (.ifCond .eq 25, 3) := by decide +kernel
theorem d_Md_readLengths_332 : decode prog_14_method_55_code 332 = .ok (.iload 4, 2) := by decide +kernel
theorem d_Md_readLengths_334 : decode prog_14_method_55_code 334 = .ok (.ifCond .ne 20, 3) := by decide +kernel
theorem d_Md_readLengths_337 : decode prog_14_method_55_code 337 = .ok (.aload_n 0, 1) := by decide +kernel
theorem d_Md_readLengths_338 : decode prog_14_method_55_code 338 = .ok (.aload_n 0, 1) := by decide +kernel
theorem d_Md_readLengths_339 : decode prog_14_method_55_code 339 = .ok (.getfield 278, 3) := by decide +kernel
theorem d_Md_readLengths_342 : decode prog_14_method_55_code 342 = .ok (.aload_n 0, 1) := by decide +kernel
theorem d_Md_readLengths_343 : decode prog_14_method_55_code 343 = .ok (.getfield 281, 3) := by decide +kernel
theorem d_Md_readLengths_346 : decode prog_14_method_55_code 346 = .ok (.invokevirtual 308, 3) := by decide +kernel
theorem d_Md_readLengths_349 : decode prog_14_method_55_code 349 = .ok (.ldc 205, 2) := by decide +kernel
theorem d_Md_readLengths_351 : decode prog_14_method_55_code 351 = .ok (.if_icmp .ne 7, 3) := by decide +kernel
theorem d_Md_readLengths_354 : decode prog_14_method_55_code 354 = .ok (.iconst 1, 1) := by decide +kernel
theorem d_Md_readLengths_355 : decode prog_14_method_55_code 355 = .ok (.goto 4, 3) := by decide +kernel
theorem d_Md_readLengths_358 : decode prog_14_method_55_code 358 = .ok (.iconst 0, 1) := by decide +kernel
theorem d_Md_readLengths_359 : decode prog_14_method_55_code 359 = .ok (.istore 5, 2) := by decide +kernel
theorem d_Md_readLengths_361 : decode prog_14_method_55_code 361 = .ok (.iload 5, 2) := by decide +kernel
theorem d_Md_readLengths_363 : decode prog_14_method_55_code 363 = .ok (.ifCond .ne 20, 3) := by decide +kernel
theorem d_Md_readLengths_366 : decode prog_14_method_55_code 366 = .ok (.aload_n 0, 1) := by decide +kernel
theorem d_Md_readLengths_367 : decode prog_14_method_55_code 367 = .ok (.bipush 24, 2) := by decide +kernel
theorem d_Md_readLengths_369 : decode prog_14_method_55_code 369 = .ok (.aload_n 0, 1) := by decide +kernel
theorem d_Md_readLengths_370 : decode prog_14_method_55_code 370 = .ok (.aload_n 0, 1) := by decide +kernel
theorem d_Md_readLengths_371 : decode prog_14_method_55_code 371 = .ok (.getfield 201, 3) := by decide +kernel
theorem d_Md_readLengths_374 : decode prog_14_method_55_code 374 = .ok (.invokevirtual 236, 3) := by decide +kernel
theorem d_Md_readLengths_377 : decode prog_14_method_55_code 377 = .ok (.invokevirtual 122, 3) := by decide +kernel
theorem d_Md_readLengths_380 : decode prog_14_method_55_code 380 = .ok (.ifCond .eq 7, 3) := by decide +kernel
theorem d_Md_readLengths_383 : decode prog_14_method_55_code 383 = .ok (.iconst 1, 1) := by decide +kernel
theorem d_Md_readLengths_384 : decode prog_14_method_55_code 384 = .ok (.goto 4, 3) := by decide +kernel
theorem d_Md_readLengths_387 : decode prog_14_method_55_code 387 = .ok (.iconst 0, 1) := by decide +kernel
theorem d_Md_readLengths_388 : decode prog_14_method_55_code 388 = .ok (.ireturn, 1) := by decide +kernel
set_option maxRecDepth 100000 in
set_option maxHeartbeats 4000000 in
theorem c_Md_readLengths {l0 : Launch} (hl : l0.stackTraces = false) (n : Nat) (ids : List Nat) {t : Nat} (ht : mm_ok ids t 1 12)  (σ : Mm) : kw_C l0 y_Md_readLengths (Cond.code y_Md_readLengths prog_14_method_55_code 6 (some .boolean) :: kw_Ts) rm_Md_readLengths kw_oi ids [] [.ref t] σ (F_Md_readLengths n t σ) := by
  refine kw_start (L0 := [some (.ref t), none, none, none, none, none]) hl (by decide +kernel) (Nat.le_of_ble_eq_true rfl) rfl (fun Γ ad C Ce => ?_)
  unfold F_Md_readLengths
  refine kw_aload_n C d_Md_readLengths_0 rfl ?_
  refine kw_iconst (v := 5) C d_Md_readLengths_1 (by decide) ?_
  refine kw_callVi (cl' := 0) (sl' := 0) (As := [.int 5]) C (c_Md_hasBits hl n ids ht 5 σ) mi_Md_223 v_Md_hasBits ⟨_, _, rfl⟩ ht ⟨Nat.le_of_ble_eq_true rfl, Nat.le_of_ble_eq_true rfl⟩ (Nat.le_of_ble_eq_true rfl) ⟨Nat.le_of_ble_eq_true rfl, Nat.le_of_ble_eq_true rfl⟩ ⟨rfl, rfl⟩ rfl d_Md_readLengths_2 (fun x1 σ2 => ?_)
  refine kw_if_ne (tgt := 10) C d_Md_readLengths_5 (by decide) ?_ ?_
  · refine kw_aload_n C d_Md_readLengths_10 rfl ?_
    refine kw_getJ C fi_Md_201 rfl ht d_Md_readLengths_11 ?_
    refine kw_letl (fun x3 => ?_)
    refine kw_lstore_n (L' := [some (.ref t), some (.long x3), none, none, none, none]) C d_Md_readLengths_14 (by decide) rfl ?_
    refine kw_aload_n C d_Md_readLengths_15 rfl ?_
    refine kw_sipush (v := 257) C d_Md_readLengths_16 (by decide) ?_
    refine kw_aload_n C d_Md_readLengths_19 rfl ?_
    refine kw_iconst (v := 5) C d_Md_readLengths_20 (by decide) ?_
    refine kw_callVi (cl' := 0) (sl' := 0) (As := [.int 5]) C (c_Md_bits hl n ids ht 5 σ2) mi_Md_226 v_Md_bits ⟨_, _, rfl⟩ ht ⟨Nat.le_of_ble_eq_true rfl, Nat.le_of_ble_eq_true rfl⟩ (Nat.le_of_ble_eq_true rfl) ⟨Nat.le_of_ble_eq_true rfl, Nat.le_of_ble_eq_true rfl⟩ ⟨rfl, rfl⟩ rfl d_Md_readLengths_21 (fun x4 σ5 => ?_)
    refine kw_iadd C d_Md_readLengths_24 ?_
    refine kw_putI C fi_Md_278 rfl ht d_Md_readLengths_25 (fun σ6 => ?_)
    refine kw_aload_n C d_Md_readLengths_28 rfl ?_
    refine kw_getI C fi_Md_278 (Or.inl rfl) ht d_Md_readLengths_29 ?_
    refine kw_sipush (v := 286) C d_Md_readLengths_32 (by decide) ?_
    refine kw_icmp_le (tgt := 50) C d_Md_readLengths_35 (by decide) ?_ ?_
    · refine kw_aload_n C d_Md_readLengths_50 rfl ?_
      refine kw_iconst (v := 5) C d_Md_readLengths_51 (by decide) ?_
      refine kw_callVi (cl' := 0) (sl' := 0) (As := [.int 5]) C (c_Md_hasBits hl n ids ht 5 σ6) mi_Md_223 v_Md_hasBits ⟨_, _, rfl⟩ ht ⟨Nat.le_of_ble_eq_true rfl, Nat.le_of_ble_eq_true rfl⟩ (Nat.le_of_ble_eq_true rfl) ⟨Nat.le_of_ble_eq_true rfl, Nat.le_of_ble_eq_true rfl⟩ ⟨rfl, rfl⟩ rfl d_Md_readLengths_52 (fun x7 σ8 => ?_)
      refine kw_if_ne (tgt := 60) C d_Md_readLengths_55 (by decide) ?_ ?_
      · refine kw_aload_n C d_Md_readLengths_60 rfl ?_
        refine kw_getJ C fi_Md_201 rfl ht d_Md_readLengths_61 ?_
        refine kw_letl (fun x9 => ?_)
        refine kw_lstore_n (L' := [some (.ref t), some (.long x9), none, none, none, none]) C d_Md_readLengths_64 (by decide) rfl ?_
        refine kw_aload_n C d_Md_readLengths_65 rfl ?_
        refine kw_iconst (v := 1) C d_Md_readLengths_66 (by decide) ?_
        refine kw_aload_n C d_Md_readLengths_67 rfl ?_
        refine kw_iconst (v := 5) C d_Md_readLengths_68 (by decide) ?_
        refine kw_callVi (cl' := 0) (sl' := 0) (As := [.int 5]) C (c_Md_bits hl n ids ht 5 σ8) mi_Md_226 v_Md_bits ⟨_, _, rfl⟩ ht ⟨Nat.le_of_ble_eq_true rfl, Nat.le_of_ble_eq_true rfl⟩ (Nat.le_of_ble_eq_true rfl) ⟨Nat.le_of_ble_eq_true rfl, Nat.le_of_ble_eq_true rfl⟩ ⟨rfl, rfl⟩ rfl d_Md_readLengths_69 (fun x10 σ11 => ?_)
        refine kw_iadd C d_Md_readLengths_72 ?_
        refine kw_putI C fi_Md_281 rfl ht d_Md_readLengths_73 (fun σ12 => ?_)
        refine kw_aload_n C d_Md_readLengths_76 rfl ?_
        refine kw_getI C fi_Md_281 (Or.inl rfl) ht d_Md_readLengths_77 ?_
        refine kw_bipush (v := 30) C d_Md_readLengths_80 (by decide) ?_
        refine kw_icmp_le (tgt := 97) C d_Md_readLengths_82 (by decide) ?_ ?_
        · refine kw_aload_n C d_Md_readLengths_97 rfl ?_
          refine kw_iconst (v := 4) C d_Md_readLengths_98 (by decide) ?_
          refine kw_callVi (cl' := 0) (sl' := 0) (As := [.int 4]) C (c_Md_hasBits hl n ids ht 4 σ12) mi_Md_223 v_Md_hasBits ⟨_, _, rfl⟩ ht ⟨Nat.le_of_ble_eq_true rfl, Nat.le_of_ble_eq_true rfl⟩ (Nat.le_of_ble_eq_true rfl) ⟨Nat.le_of_ble_eq_true rfl, Nat.le_of_ble_eq_true rfl⟩ ⟨rfl, rfl⟩ rfl d_Md_readLengths_99 (fun x13 σ14 => ?_)
          refine kw_if_ne (tgt := 107) C d_Md_readLengths_102 (by decide) ?_ ?_
          · refine kw_iconst (v := 4) C d_Md_readLengths_107 (by decide) ?_
            refine kw_aload_n C d_Md_readLengths_108 rfl ?_
            refine kw_iconst (v := 4) C d_Md_readLengths_109 (by decide) ?_
            refine kw_callVi (cl' := 0) (sl' := 0) (As := [.int 4]) C (c_Md_bits hl n ids ht 4 σ14) mi_Md_226 v_Md_bits ⟨_, _, rfl⟩ ht ⟨Nat.le_of_ble_eq_true rfl, Nat.le_of_ble_eq_true rfl⟩ (Nat.le_of_ble_eq_true rfl) ⟨Nat.le_of_ble_eq_true rfl, Nat.le_of_ble_eq_true rfl⟩ ⟨rfl, rfl⟩ rfl d_Md_readLengths_110 (fun x15 σ16 => ?_)
            refine kw_iadd C d_Md_readLengths_113 ?_
            refine kw_leti (fun x17 => ?_)
            refine kw_istore_n (L' := [some (.ref t), some (.long x9), none, some (.int x17), none, none]) C d_Md_readLengths_114 (by decide) rfl ?_
            refine kw_aload_n C d_Md_readLengths_115 rfl ?_
            refine kw_getJ C fi_Md_201 rfl ht d_Md_readLengths_116 ?_
            refine kw_letl (fun x18 => ?_)
            refine kw_lstore_n (L' := [some (.ref t), some (.long x18), none, some (.int x17), none, none]) C d_Md_readLengths_119 (by decide) rfl ?_
            refine kw_iconst (v := 0) C d_Md_readLengths_120 (by decide) ?_
            refine kw_istore (L' := [some (.ref t), some (.long x18), none, some (.int x17), some (.int 0), none]) C d_Md_readLengths_121 (by decide) rfl ?_
            refine kw_wk (kw_l (α := Int32) (pc := 123) (Lj := fun x20 => [some (.ref t), some (.long x18), none, some (.int x17), some (.int x20), none]) (stj := fun x20 => []) (fun k19 hk19 x20 σ21 => ?_) n 0 σ16) ⟨Or.inr rfl, Or.inr rfl, Or.inl rfl, Or.inr rfl, Or.inr rfl, Or.inl rfl, trivial⟩
            refine kw_iload C d_Md_readLengths_123 rfl ?_
            refine kw_bipush (v := 19) C d_Md_readLengths_125 (by decide) ?_
            refine kw_icmp_ge (tgt := 144) C d_Md_readLengths_127 (by decide) ?_ ?_
            · refine kw_iconst (v := 0) C d_Md_readLengths_144 (by decide) ?_
              refine kw_istore (L' := [some (.ref t), some (.long x18), none, some (.int x17), some (.int 0), none]) C d_Md_readLengths_145 (by decide) rfl ?_
              refine kw_wk (kw_l (α := Int32) (pc := 147) (Lj := fun x23 => [some (.ref t), some (.long x18), none, some (.int x17), some (.int x23), none]) (stj := fun x23 => []) (fun k22 hk22 x23 σ24 => ?_) n 0 σ21) ⟨Or.inr rfl, Or.inr rfl, Or.inl rfl, Or.inr rfl, Or.inr rfl, Or.inl rfl, trivial⟩
              refine kw_iload C d_Md_readLengths_147 rfl ?_
              refine kw_iload_n C d_Md_readLengths_149 rfl ?_
              refine kw_icmp_ge (tgt := 184) C d_Md_readLengths_150 (by decide) ?_ ?_
              · refine kw_aload_n C d_Md_readLengths_184 rfl ?_
                refine kw_iconst (v := 0) C d_Md_readLengths_185 (by decide) ?_
                refine kw_bipush (v := 19) C d_Md_readLengths_186 (by decide) ?_
                refine kw_callVi (cl' := 0) (sl' := 0) (As := [.int 0, .int 19]) C (c_Md_left hl n ids ht 0 19 σ24) mi_Md_308 v_Md_left ⟨_, _, rfl⟩ ht ⟨Nat.le_of_ble_eq_true rfl, Nat.le_of_ble_eq_true rfl⟩ (Nat.le_of_ble_eq_true rfl) ⟨Nat.le_of_ble_eq_true rfl, Nat.le_of_ble_eq_true rfl⟩ ⟨rfl, rfl⟩ rfl d_Md_readLengths_188 (fun x25 σ26 => ?_)
                refine kw_if_eq (tgt := 206) C d_Md_readLengths_191 (by decide) ?_ ?_
                · refine kw_aload_n C d_Md_readLengths_206 rfl ?_
                  refine kw_callVi (cl' := 0) (sl' := 0) (As := []) C (c_Md_readSteps hl n ids ht  σ26) mi_Md_311 v_Md_readSteps ⟨_, _, rfl⟩ ht ⟨Nat.le_of_ble_eq_true rfl, Nat.le_of_ble_eq_true rfl⟩ (Nat.le_of_ble_eq_true rfl) ⟨Nat.le_of_ble_eq_true rfl, Nat.le_of_ble_eq_true rfl⟩ ⟨rfl, rfl⟩ rfl d_Md_readLengths_207 (fun x27 σ28 => ?_)
                  refine kw_if_ne (tgt := 215) C d_Md_readLengths_210 (by decide) ?_ ?_
                  · refine kw_iconst (v := 0) C d_Md_readLengths_215 (by decide) ?_
                    refine kw_istore (L' := [some (.ref t), some (.long x18), none, some (.int x17), some (.int 0), none]) C d_Md_readLengths_216 (by decide) rfl ?_
                    refine kw_wk (kw_l (α := Int32) (pc := 218) (Lj := fun x30 => [some (.ref t), none, none, none, some (.int x30), none]) (stj := fun x30 => []) (fun k29 hk29 x30 σ31 => ?_) n 0 σ28) ⟨Or.inr rfl, Or.inl rfl, Or.inl rfl, Or.inl rfl, Or.inr rfl, Or.inl rfl, trivial⟩
                    refine kw_iload C d_Md_readLengths_218 rfl ?_
                    refine kw_aload_n C d_Md_readLengths_220 rfl ?_
                    refine kw_getI C fi_Md_278 (Or.inl rfl) ht d_Md_readLengths_221 ?_
                    refine kw_aload_n C d_Md_readLengths_224 rfl ?_
                    refine kw_getI C fi_Md_281 (Or.inl rfl) ht d_Md_readLengths_225 ?_
                    refine kw_iadd C d_Md_readLengths_228 ?_
                    refine kw_icmp_ge (tgt := 252) C d_Md_readLengths_229 (by decide) ?_ ?_
                    · refine kw_aload_n C d_Md_readLengths_252 rfl ?_
                      refine kw_aload_n C d_Md_readLengths_253 rfl ?_
                      refine kw_getI C fi_Md_278 (Or.inl rfl) ht d_Md_readLengths_254 ?_
                      refine kw_aload_n C d_Md_readLengths_257 rfl ?_
                      refine kw_getI C fi_Md_281 (Or.inl rfl) ht d_Md_readLengths_258 ?_
                      refine kw_iconst (v := 1) C d_Md_readLengths_261 (by decide) ?_
                      refine kw_callVi (cl' := 0) (sl' := 0) (As := [.int (gS σ31 (64 * t + 47)), .int (gS σ31 (64 * t + 48)), .int 1]) C (c_Md_many hl n ids ht (gS σ31 (64 * t + 47)) (gS σ31 (64 * t + 48)) 1 σ31) mi_Md_206 v_Md_many ⟨_, _, rfl⟩ ht ⟨Nat.le_of_ble_eq_true rfl, Nat.le_of_ble_eq_true rfl⟩ (Nat.le_of_ble_eq_true rfl) ⟨Nat.le_of_ble_eq_true rfl, Nat.le_of_ble_eq_true rfl⟩ ⟨rfl, rfl⟩ rfl d_Md_readLengths_262 (fun x32 σ33 => ?_)
                      refine kw_iconst (v := 1) C d_Md_readLengths_265 (by decide) ?_
                      refine kw_j (α := Int32) (pcj := 292) (Lj := fun x35 => [some (.ref t), none, none, none, none, none]) (stj := fun x35 => [.int x35]) (fun x35 σ36 => ?_) (fun k34 hk34 => ?_)
                      · refine kw_istore (L' := [some (.ref t), none, none, none, some (.int x35), none]) C d_Md_readLengths_292 (by decide) rfl ?_
                        refine kw_aload_n C d_Md_readLengths_294 rfl ?_
                        refine kw_iconst (v := 0) C d_Md_readLengths_295 (by decide) ?_
                        refine kw_aload_n C d_Md_readLengths_296 rfl ?_
                        refine kw_getI C fi_Md_278 (Or.inl rfl) ht d_Md_readLengths_297 ?_
                        refine kw_callVi (cl' := 0) (sl' := 0) (As := [.int 0, .int (gS σ36 (64 * t + 47))]) C (c_Md_left hl n ids ht 0 (gS σ36 (64 * t + 47)) σ36) mi_Md_308 v_Md_left ⟨_, _, rfl⟩ ht ⟨Nat.le_of_ble_eq_true rfl, Nat.le_of_ble_eq_true rfl⟩ (Nat.le_of_ble_eq_true rfl) ⟨Nat.le_of_ble_eq_true rfl, Nat.le_of_ble_eq_true rfl⟩ ⟨rfl, rfl⟩ rfl d_Md_readLengths_300 (fun x37 σ38 => ?_)
                        refine kw_j (α := Int32) (pcj := 359) (Lj := fun x40 => [some (.ref t), none, none, none, none, none]) (stj := fun x40 => [.int x40]) (fun x40 σ41 => ?_) (fun k39 hk39 => ?_)
                        · refine kw_istore (L' := [some (.ref t), none, none, none, none, some (.int x40)]) C d_Md_readLengths_359 (by decide) rfl ?_
                          refine kw_iload C d_Md_readLengths_361 rfl ?_
                          refine kw_j (α := Int32) (pcj := 388) (Lj := fun x43 => [none, none, none, none, none, none]) (stj := fun x43 => [.int x43]) (fun x43 σ44 => ?_) (fun k42 hk42 => ?_)
                          · exact kw_zret C Ce rfl (by simp) (fun _ _ => rfl) (Nat.le_of_ble_eq_true rfl) (Nat.le_of_ble_eq_true rfl) rfl d_Md_readLengths_388
                          · refine kw_j (α := Unit) (pcj := 383) (Lj := fun x46 => [none, none, none, none, none, none]) (stj := fun x46 => []) (fun x46 σ47 => ?_) (fun k45 hk45 => ?_)
                            · refine kw_iconst (v := 1) C d_Md_readLengths_383 (by decide) ?_
                              refine kw_goto (tgt := 388) C d_Md_readLengths_384 (by decide) ?_
                              exact kw_wk (hk42 1 σ47) ⟨Or.inl rfl, Or.inl rfl, Or.inl rfl, Or.inl rfl, Or.inl rfl, Or.inl rfl, trivial⟩
                            · refine kw_if_ne (tgt := 383) C d_Md_readLengths_363 (by decide) ?_ ?_
                              · exact kw_wk (hk45 () σ41) ⟨Or.inl rfl, Or.inl rfl, Or.inl rfl, Or.inl rfl, Or.inl rfl, Or.inl rfl, trivial⟩
                              · refine kw_aload_n C d_Md_readLengths_366 rfl ?_
                                refine kw_bipush (v := 24) C d_Md_readLengths_367 (by decide) ?_
                                refine kw_aload_n C d_Md_readLengths_369 rfl ?_
                                refine kw_aload_n C d_Md_readLengths_370 rfl ?_
                                refine kw_getJ C fi_Md_201 rfl ht d_Md_readLengths_371 ?_
                                refine kw_callVi (cl' := 0) (sl' := 0) (As := [.long (gJ σ41 (64 * t + 43))]) C (c_Md_placeOf hl n ids ht (gJ σ41 (64 * t + 43)) σ41) mi_Md_236 v_Md_placeOf ⟨_, _, rfl⟩ ht ⟨Nat.le_of_ble_eq_true rfl, Nat.le_of_ble_eq_true rfl⟩ (Nat.le_of_ble_eq_true rfl) ⟨Nat.le_of_ble_eq_true rfl, Nat.le_of_ble_eq_true rfl⟩ ⟨rfl, rfl⟩ rfl d_Md_readLengths_374 (fun x48 σ49 => ?_)
                                refine kw_callVi (cl' := 0) (sl' := 0) (As := [.int 24, .int x48]) C (c_Md_flaw hl n ids ht 24 x48 σ49) mi_Md_122 v_Md_flaw ⟨_, _, rfl⟩ ht ⟨Nat.le_of_ble_eq_true rfl, Nat.le_of_ble_eq_true rfl⟩ (Nat.le_of_ble_eq_true rfl) ⟨Nat.le_of_ble_eq_true rfl, Nat.le_of_ble_eq_true rfl⟩ ⟨rfl, rfl⟩ rfl d_Md_readLengths_377 (fun x50 σ51 => ?_)
                                refine kw_if_eq (tgt := 387) C d_Md_readLengths_380 (by decide) ?_ ?_
                                · refine kw_iconst (v := 0) C d_Md_readLengths_387 (by decide) ?_
                                  exact kw_wk (hk42 0 σ51) ⟨Or.inl rfl, Or.inl rfl, Or.inl rfl, Or.inl rfl, Or.inl rfl, Or.inl rfl, trivial⟩
                                · exact kw_wk (hk45 () σ51) ⟨Or.inl rfl, Or.inl rfl, Or.inl rfl, Or.inl rfl, Or.inl rfl, Or.inl rfl, trivial⟩
                        · refine kw_j (α := Unit) (pcj := 358) (Lj := fun x53 => [some (.ref t), none, none, none, none, none]) (stj := fun x53 => []) (fun x53 σ54 => ?_) (fun k52 hk52 => ?_)
                          · refine kw_iconst (v := 0) C d_Md_readLengths_358 (by decide) ?_
                            exact kw_wk (hk39 0 σ54) ⟨Or.inr rfl, Or.inl rfl, Or.inl rfl, Or.inl rfl, Or.inl rfl, Or.inl rfl, trivial⟩
                          · refine kw_if_ne (tgt := 358) C d_Md_readLengths_303 (by decide) ?_ ?_
                            · exact kw_wk (hk52 () σ38) ⟨Or.inr rfl, Or.inl rfl, Or.inl rfl, Or.inl rfl, Or.inl rfl, Or.inl rfl, trivial⟩
                            · refine kw_aload_n C d_Md_readLengths_306 rfl ?_
                              refine kw_getR C fi_Md_58 rfl rfl ht d_Md_readLengths_307 (fun o55 ho55 => ?_)
                              refine kw_sipush (v := 256) C d_Md_readLengths_310 (by decide) ?_
                              refine kw_iald C (Or.inl ⟨ho55.1, ho55.2.1⟩) d_Md_readLengths_313 ?_
                              refine kw_if_le (tgt := 358) C d_Md_readLengths_314 (by decide) ?_ ?_
                              · exact kw_wk (hk52 () σ38) ⟨Or.inr rfl, Or.inl rfl, Or.inl rfl, Or.inl rfl, Or.inl rfl, Or.inl rfl, trivial⟩
                              · refine kw_aload_n C d_Md_readLengths_317 rfl ?_
                                refine kw_aload_n C d_Md_readLengths_318 rfl ?_
                                refine kw_getI C fi_Md_278 (Or.inl rfl) ht d_Md_readLengths_319 ?_
                                refine kw_aload_n C d_Md_readLengths_322 rfl ?_
                                refine kw_getI C fi_Md_281 (Or.inl rfl) ht d_Md_readLengths_323 ?_
                                refine kw_callVi (cl' := 0) (sl' := 0) (As := [.int (gS σ38 (64 * t + 47)), .int (gS σ38 (64 * t + 48))]) C (c_Md_left hl n ids ht (gS σ38 (64 * t + 47)) (gS σ38 (64 * t + 48)) σ38) mi_Md_308 v_Md_left ⟨_, _, rfl⟩ ht ⟨Nat.le_of_ble_eq_true rfl, Nat.le_of_ble_eq_true rfl⟩ (Nat.le_of_ble_eq_true rfl) ⟨Nat.le_of_ble_eq_true rfl, Nat.le_of_ble_eq_true rfl⟩ ⟨rfl, rfl⟩ rfl d_Md_readLengths_326 (fun x56 σ57 => ?_)
                                refine kw_j (α := Unit) (pcj := 354) (Lj := fun x59 => [some (.ref t), none, none, none, none, none]) (stj := fun x59 => []) (fun x59 σ60 => ?_) (fun k58 hk58 => ?_)
                                · refine kw_iconst (v := 1) C d_Md_readLengths_354 (by decide) ?_
                                  refine kw_goto (tgt := 359) C d_Md_readLengths_355 (by decide) ?_
                                  exact kw_wk (hk39 1 σ60) ⟨Or.inr rfl, Or.inl rfl, Or.inl rfl, Or.inl rfl, Or.inl rfl, Or.inl rfl, trivial⟩
                                · refine kw_if_eq (tgt := 354) C d_Md_readLengths_329 (by decide) ?_ ?_
                                  · exact kw_wk (hk58 () σ57) ⟨Or.inr rfl, Or.inl rfl, Or.inl rfl, Or.inl rfl, Or.inl rfl, Or.inl rfl, trivial⟩
                                  · refine kw_iload C d_Md_readLengths_332 rfl ?_
                                    refine kw_if_ne (tgt := 354) C d_Md_readLengths_334 (by decide) ?_ ?_
                                    · exact kw_wk (hk58 () σ57) ⟨Or.inr rfl, Or.inl rfl, Or.inl rfl, Or.inl rfl, Or.inl rfl, Or.inl rfl, trivial⟩
                                    · refine kw_aload_n C d_Md_readLengths_337 rfl ?_
                                      refine kw_aload_n C d_Md_readLengths_338 rfl ?_
                                      refine kw_getI C fi_Md_278 (Or.inl rfl) ht d_Md_readLengths_339 ?_
                                      refine kw_aload_n C d_Md_readLengths_342 rfl ?_
                                      refine kw_getI C fi_Md_281 (Or.inl rfl) ht d_Md_readLengths_343 ?_
                                      refine kw_callVi (cl' := 0) (sl' := 0) (As := [.int (gS σ57 (64 * t + 47)), .int (gS σ57 (64 * t + 48))]) C (c_Md_left hl n ids ht (gS σ57 (64 * t + 47)) (gS σ57 (64 * t + 48)) σ57) mi_Md_308 v_Md_left ⟨_, _, rfl⟩ ht ⟨Nat.le_of_ble_eq_true rfl, Nat.le_of_ble_eq_true rfl⟩ (Nat.le_of_ble_eq_true rfl) ⟨Nat.le_of_ble_eq_true rfl, Nat.le_of_ble_eq_true rfl⟩ ⟨rfl, rfl⟩ rfl d_Md_readLengths_346 (fun x61 σ62 => ?_)
                                      refine kw_ldc (v := 32768) C d_Md_readLengths_349 k_Md_205 ?_
                                      refine kw_icmp_ne (tgt := 358) C d_Md_readLengths_351 (by decide) ?_ ?_
                                      · exact kw_wk (hk52 () σ62) ⟨Or.inr rfl, Or.inl rfl, Or.inl rfl, Or.inl rfl, Or.inl rfl, Or.inl rfl, trivial⟩
                                      · exact kw_wk (hk58 () σ62) ⟨Or.inr rfl, Or.inl rfl, Or.inl rfl, Or.inl rfl, Or.inl rfl, Or.inl rfl, trivial⟩
                      · refine kw_j (α := Unit) (pcj := 291) (Lj := fun x64 => [some (.ref t), none, none, none, none, none]) (stj := fun x64 => []) (fun x64 σ65 => ?_) (fun k63 hk63 => ?_)
                        · refine kw_iconst (v := 0) C d_Md_readLengths_291 (by decide) ?_
                          exact kw_wk (hk34 0 σ65) ⟨Or.inr rfl, Or.inl rfl, Or.inl rfl, Or.inl rfl, Or.inl rfl, Or.inl rfl, trivial⟩
                        · refine kw_icmp_ne (tgt := 291) C d_Md_readLengths_266 (by decide) ?_ ?_
                          · exact kw_wk (hk63 () σ33) ⟨Or.inr rfl, Or.inl rfl, Or.inl rfl, Or.inl rfl, Or.inl rfl, Or.inl rfl, trivial⟩
                          · refine kw_aload_n C d_Md_readLengths_269 rfl ?_
                            refine kw_aload_n C d_Md_readLengths_270 rfl ?_
                            refine kw_getI C fi_Md_278 (Or.inl rfl) ht d_Md_readLengths_271 ?_
                            refine kw_aload_n C d_Md_readLengths_274 rfl ?_
                            refine kw_getI C fi_Md_281 (Or.inl rfl) ht d_Md_readLengths_275 ?_
                            refine kw_callVi (cl' := 0) (sl' := 0) (As := [.int (gS σ33 (64 * t + 47)), .int (gS σ33 (64 * t + 48))]) C (c_Md_left hl n ids ht (gS σ33 (64 * t + 47)) (gS σ33 (64 * t + 48)) σ33) mi_Md_308 v_Md_left ⟨_, _, rfl⟩ ht ⟨Nat.le_of_ble_eq_true rfl, Nat.le_of_ble_eq_true rfl⟩ (Nat.le_of_ble_eq_true rfl) ⟨Nat.le_of_ble_eq_true rfl, Nat.le_of_ble_eq_true rfl⟩ ⟨rfl, rfl⟩ rfl d_Md_readLengths_278 (fun x66 σ67 => ?_)
                            refine kw_sipush (v := 16384) C d_Md_readLengths_281 (by decide) ?_
                            refine kw_icmp_ne (tgt := 291) C d_Md_readLengths_284 (by decide) ?_ ?_
                            · exact kw_wk (hk63 () σ67) ⟨Or.inr rfl, Or.inl rfl, Or.inl rfl, Or.inl rfl, Or.inl rfl, Or.inl rfl, trivial⟩
                            · refine kw_iconst (v := 1) C d_Md_readLengths_287 (by decide) ?_
                              refine kw_goto (tgt := 292) C d_Md_readLengths_288 (by decide) ?_
                              exact kw_wk (hk34 1 σ67) ⟨Or.inr rfl, Or.inl rfl, Or.inl rfl, Or.inl rfl, Or.inl rfl, Or.inl rfl, trivial⟩
                    · refine kw_aload_n C d_Md_readLengths_232 rfl ?_
                      refine kw_getR C fi_Md_58 rfl rfl ht d_Md_readLengths_233 (fun o68 ho68 => ?_)
                      refine kw_iload C d_Md_readLengths_236 rfl ?_
                      refine kw_aload_n C d_Md_readLengths_238 rfl ?_
                      refine kw_getR C fi_Md_61 rfl rfl ht d_Md_readLengths_239 (fun o69 ho69 => ?_)
                      refine kw_iload C d_Md_readLengths_242 rfl ?_
                      refine kw_iald C (Or.inl ⟨ho69.1, ho69.2.1⟩) d_Md_readLengths_244 ?_
                      refine kw_iast C ho68 d_Md_readLengths_245 (fun σ70 => ?_)
                      refine kw_iincL (L2 := fun x71 => [some (.ref t), none, none, none, some (.int x71), none]) C d_Md_readLengths_246 (by decide) rfl (fun _ => rfl) (fun x71 => ?_)
                      refine kw_goto (tgt := 218) C d_Md_readLengths_249 (by decide) ?_
                      exact kw_wk (hk29 x71 σ70) ⟨Or.inr rfl, Or.inl rfl, Or.inl rfl, Or.inl rfl, Or.inr rfl, Or.inl rfl, trivial⟩
                  · refine kw_iconst (v := 0) C d_Md_readLengths_213 (by decide) ?_
                    exact kw_zret C Ce rfl (by simp) (fun _ _ => rfl) (Nat.le_of_ble_eq_true rfl) (Nat.le_of_ble_eq_true rfl) rfl d_Md_readLengths_214
                · refine kw_aload_n C d_Md_readLengths_194 rfl ?_
                  refine kw_bipush (v := 24) C d_Md_readLengths_195 (by decide) ?_
                  refine kw_aload_n C d_Md_readLengths_197 rfl ?_
                  refine kw_lload_n C d_Md_readLengths_198 rfl ?_
                  refine kw_callVi (cl' := 0) (sl' := 0) (As := [.long x18]) C (c_Md_placeOf hl n ids ht x18 σ26) mi_Md_236 v_Md_placeOf ⟨_, _, rfl⟩ ht ⟨Nat.le_of_ble_eq_true rfl, Nat.le_of_ble_eq_true rfl⟩ (Nat.le_of_ble_eq_true rfl) ⟨Nat.le_of_ble_eq_true rfl, Nat.le_of_ble_eq_true rfl⟩ ⟨rfl, rfl⟩ rfl d_Md_readLengths_199 (fun x72 σ73 => ?_)
                  refine kw_callVi (cl' := 0) (sl' := 0) (As := [.int 24, .int x72]) C (c_Md_flaw hl n ids ht 24 x72 σ73) mi_Md_122 v_Md_flaw ⟨_, _, rfl⟩ ht ⟨Nat.le_of_ble_eq_true rfl, Nat.le_of_ble_eq_true rfl⟩ (Nat.le_of_ble_eq_true rfl) ⟨Nat.le_of_ble_eq_true rfl, Nat.le_of_ble_eq_true rfl⟩ ⟨rfl, rfl⟩ rfl d_Md_readLengths_202 (fun x74 σ75 => ?_)
                  exact kw_zret C Ce rfl (by simp) (fun _ _ => rfl) (Nat.le_of_ble_eq_true rfl) (Nat.le_of_ble_eq_true rfl) rfl d_Md_readLengths_205
              · refine kw_aload_n C d_Md_readLengths_153 rfl ?_
                refine kw_iconst (v := 3) C d_Md_readLengths_154 (by decide) ?_
                refine kw_callVi (cl' := 0) (sl' := 0) (As := [.int 3]) C (c_Md_hasBits hl n ids ht 3 σ24) mi_Md_223 v_Md_hasBits ⟨_, _, rfl⟩ ht ⟨Nat.le_of_ble_eq_true rfl, Nat.le_of_ble_eq_true rfl⟩ (Nat.le_of_ble_eq_true rfl) ⟨Nat.le_of_ble_eq_true rfl, Nat.le_of_ble_eq_true rfl⟩ ⟨rfl, rfl⟩ rfl d_Md_readLengths_155 (fun x76 σ77 => ?_)
                refine kw_if_ne (tgt := 163) C d_Md_readLengths_158 (by decide) ?_ ?_
                · refine kw_aload_n C d_Md_readLengths_163 rfl ?_
                  refine kw_getR C fi_Md_58 rfl rfl ht d_Md_readLengths_164 (fun o78 ho78 => ?_)
                  refine kw_iload C d_Md_readLengths_167 rfl ?_
                  refine kw_callSi (cl' := 0) (sl' := 0) (As := [.int x23]) C (c_Md_orderOf hl n ids  x23 σ77) mi_Md_305 s_Md_orderOf ⟨Nat.le_of_ble_eq_true rfl, Nat.le_of_ble_eq_true rfl⟩ (Nat.le_of_ble_eq_true rfl) ⟨Nat.le_of_ble_eq_true rfl, Nat.le_of_ble_eq_true rfl⟩ ⟨rfl, rfl⟩ rfl d_Md_readLengths_169 (fun x79 σ80 => ?_)
                  refine kw_aload_n C d_Md_readLengths_172 rfl ?_
                  refine kw_iconst (v := 3) C d_Md_readLengths_173 (by decide) ?_
                  refine kw_callVi (cl' := 0) (sl' := 0) (As := [.int 3]) C (c_Md_bits hl n ids ht 3 σ80) mi_Md_226 v_Md_bits ⟨_, _, rfl⟩ ht ⟨Nat.le_of_ble_eq_true rfl, Nat.le_of_ble_eq_true rfl⟩ (Nat.le_of_ble_eq_true rfl) ⟨Nat.le_of_ble_eq_true rfl, Nat.le_of_ble_eq_true rfl⟩ ⟨rfl, rfl⟩ rfl d_Md_readLengths_174 (fun x81 σ82 => ?_)
                  refine kw_iast C ho78 d_Md_readLengths_177 (fun σ83 => ?_)
                  refine kw_iincL (L2 := fun x84 => [some (.ref t), some (.long x18), none, some (.int x17), some (.int x84), none]) C d_Md_readLengths_178 (by decide) rfl (fun _ => rfl) (fun x84 => ?_)
                  refine kw_goto (tgt := 147) C d_Md_readLengths_181 (by decide) ?_
                  exact kw_wk (hk22 x84 σ83) ⟨Or.inr rfl, Or.inr rfl, Or.inl rfl, Or.inr rfl, Or.inr rfl, Or.inl rfl, trivial⟩
                · refine kw_iconst (v := 0) C d_Md_readLengths_161 (by decide) ?_
                  exact kw_zret C Ce rfl (by simp) (fun _ _ => rfl) (Nat.le_of_ble_eq_true rfl) (Nat.le_of_ble_eq_true rfl) rfl d_Md_readLengths_162
            · refine kw_aload_n C d_Md_readLengths_130 rfl ?_
              refine kw_getR C fi_Md_58 rfl rfl ht d_Md_readLengths_131 (fun o85 ho85 => ?_)
              refine kw_iload C d_Md_readLengths_134 rfl ?_
              refine kw_iconst (v := 0) C d_Md_readLengths_136 (by decide) ?_
              refine kw_iast C ho85 d_Md_readLengths_137 (fun σ86 => ?_)
              refine kw_iincL (L2 := fun x87 => [some (.ref t), some (.long x18), none, some (.int x17), some (.int x87), none]) C d_Md_readLengths_138 (by decide) rfl (fun _ => rfl) (fun x87 => ?_)
              refine kw_goto (tgt := 123) C d_Md_readLengths_141 (by decide) ?_
              exact kw_wk (hk19 x87 σ86) ⟨Or.inr rfl, Or.inr rfl, Or.inl rfl, Or.inr rfl, Or.inr rfl, Or.inl rfl, trivial⟩
          · refine kw_iconst (v := 0) C d_Md_readLengths_105 (by decide) ?_
            exact kw_zret C Ce rfl (by simp) (fun _ _ => rfl) (Nat.le_of_ble_eq_true rfl) (Nat.le_of_ble_eq_true rfl) rfl d_Md_readLengths_106
        · refine kw_aload_n C d_Md_readLengths_85 rfl ?_
          refine kw_bipush (v := 24) C d_Md_readLengths_86 (by decide) ?_
          refine kw_aload_n C d_Md_readLengths_88 rfl ?_
          refine kw_lload_n C d_Md_readLengths_89 rfl ?_
          refine kw_callVi (cl' := 0) (sl' := 0) (As := [.long x9]) C (c_Md_placeOf hl n ids ht x9 σ12) mi_Md_236 v_Md_placeOf ⟨_, _, rfl⟩ ht ⟨Nat.le_of_ble_eq_true rfl, Nat.le_of_ble_eq_true rfl⟩ (Nat.le_of_ble_eq_true rfl) ⟨Nat.le_of_ble_eq_true rfl, Nat.le_of_ble_eq_true rfl⟩ ⟨rfl, rfl⟩ rfl d_Md_readLengths_90 (fun x88 σ89 => ?_)
          refine kw_callVi (cl' := 0) (sl' := 0) (As := [.int 24, .int x88]) C (c_Md_flaw hl n ids ht 24 x88 σ89) mi_Md_122 v_Md_flaw ⟨_, _, rfl⟩ ht ⟨Nat.le_of_ble_eq_true rfl, Nat.le_of_ble_eq_true rfl⟩ (Nat.le_of_ble_eq_true rfl) ⟨Nat.le_of_ble_eq_true rfl, Nat.le_of_ble_eq_true rfl⟩ ⟨rfl, rfl⟩ rfl d_Md_readLengths_93 (fun x90 σ91 => ?_)
          exact kw_zret C Ce rfl (by simp) (fun _ _ => rfl) (Nat.le_of_ble_eq_true rfl) (Nat.le_of_ble_eq_true rfl) rfl d_Md_readLengths_96
      · refine kw_iconst (v := 0) C d_Md_readLengths_58 (by decide) ?_
        exact kw_zret C Ce rfl (by simp) (fun _ _ => rfl) (Nat.le_of_ble_eq_true rfl) (Nat.le_of_ble_eq_true rfl) rfl d_Md_readLengths_59
    · refine kw_aload_n C d_Md_readLengths_38 rfl ?_
      refine kw_bipush (v := 24) C d_Md_readLengths_39 (by decide) ?_
      refine kw_aload_n C d_Md_readLengths_41 rfl ?_
      refine kw_lload_n C d_Md_readLengths_42 rfl ?_
      refine kw_callVi (cl' := 0) (sl' := 0) (As := [.long x3]) C (c_Md_placeOf hl n ids ht x3 σ6) mi_Md_236 v_Md_placeOf ⟨_, _, rfl⟩ ht ⟨Nat.le_of_ble_eq_true rfl, Nat.le_of_ble_eq_true rfl⟩ (Nat.le_of_ble_eq_true rfl) ⟨Nat.le_of_ble_eq_true rfl, Nat.le_of_ble_eq_true rfl⟩ ⟨rfl, rfl⟩ rfl d_Md_readLengths_43 (fun x92 σ93 => ?_)
      refine kw_callVi (cl' := 0) (sl' := 0) (As := [.int 24, .int x92]) C (c_Md_flaw hl n ids ht 24 x92 σ93) mi_Md_122 v_Md_flaw ⟨_, _, rfl⟩ ht ⟨Nat.le_of_ble_eq_true rfl, Nat.le_of_ble_eq_true rfl⟩ (Nat.le_of_ble_eq_true rfl) ⟨Nat.le_of_ble_eq_true rfl, Nat.le_of_ble_eq_true rfl⟩ ⟨rfl, rfl⟩ rfl d_Md_readLengths_46 (fun x94 σ95 => ?_)
      exact kw_zret C Ce rfl (by simp) (fun _ _ => rfl) (Nat.le_of_ble_eq_true rfl) (Nat.le_of_ble_eq_true rfl) rfl d_Md_readLengths_49
  · refine kw_iconst (v := 0) C d_Md_readLengths_8 (by decide) ?_
    exact kw_zret C Ce rfl (by simp) (fun _ _ => rfl) (Nat.le_of_ble_eq_true rfl) (Nat.le_of_ble_eq_true rfl) rfl d_Md_readLengths_9
/-! Md_moreBits -/
def rm_Md_moreBits : Room := { frames := 0, cells := 0, slots := 0, locals := 0 }
def F_Md_moreBits (n : Nat) (a0 : Int32) (σ : Mm) : Option (Int32 × Mm) :=
kf_j (α := Int32) (fun x2 σ3 =>
some (x2, σ3)) fun k1 =>
kf_j (α := Unit) (fun x5 σ6 =>
k1 0 σ6) fun k4 =>
if a0 < 265 then (
k4 () σ) else (
if a0 = 285 then (
k4 () σ) else (
kf_nz 4 <|
k1 ((a0 - 261) / 4) σ))
theorem d_Md_moreBits_0 : decode prog_14_method_49_code 0 = .ok (.iload_n 0, 1) := by decide +kernel
theorem d_Md_moreBits_1 : decode prog_14_method_49_code 1 = .ok (.sipush 265, 3) := by decide +kernel
theorem d_Md_moreBits_4 : decode prog_14_method_49_code 4 = .ok (.if_icmp .lt 10, 3) := by decide +kernel
theorem d_Md_moreBits_7 : decode prog_14_method_49_code 7 = .ok (.iload_n 0, 1) := by decide +kernel
theorem d_Md_moreBits_8 : decode prog_14_method_49_code 8 = .ok (.sipush 285, 3) := by decide +kernel
theorem d_Md_moreBits_11 : decode prog_14_method_49_code 11 = .ok (.if_icmp .ne 7, 3) := by decide +kernel
theorem d_Md_moreBits_14 : decode prog_14_method_49_code 14 = .ok (.iconst 0, 1) := by decide +kernel
theorem d_Md_moreBits_15 : decode prog_14_method_49_code 15 = .ok (.goto 10, 3) := by decide +kernel
theorem d_Md_moreBits_18 : decode prog_14_method_49_code 18 = .ok (.iload_n 0, 1) := by decide +kernel
theorem d_Md_moreBits_19 : decode prog_14_method_49_code 19 = .ok (.sipush 261, 3) := by decide +kernel
theorem d_Md_moreBits_22 : decode prog_14_method_49_code 22 = .ok (.isub, 1) := by decide +kernel
theorem d_Md_moreBits_23 : decode prog_14_method_49_code 23 = .ok (.iconst 4, 1) := by decide +kernel
theorem d_Md_moreBits_24 : decode prog_14_method_49_code 24 = .ok (.idiv, 1) := by decide +kernel
theorem d_Md_moreBits_25 : decode prog_14_method_49_code 25 = .ok (.ireturn, 1) := by decide +kernel
set_option maxRecDepth 100000 in
set_option maxHeartbeats 4000000 in
theorem c_Md_moreBits {l0 : Launch} (hl : l0.stackTraces = false) (n : Nat) (ids : List Nat)  (a0 : Int32) (σ : Mm) : kw_C l0 y_Md_moreBits (Cond.code y_Md_moreBits prog_14_method_49_code 1 (some .int) :: kw_Ts) rm_Md_moreBits kw_oi ids [] [.int a0] σ (F_Md_moreBits n a0 σ) := by
  refine kw_start (L0 := [some (.int a0)]) hl (by decide +kernel) (Nat.le_of_ble_eq_true rfl) rfl (fun Γ ad C Ce => ?_)
  unfold F_Md_moreBits
  refine kw_iload_n C d_Md_moreBits_0 rfl ?_
  refine kw_sipush (v := 265) C d_Md_moreBits_1 (by decide) ?_
  refine kw_j (α := Int32) (pcj := 25) (Lj := fun x2 => [none]) (stj := fun x2 => [.int x2]) (fun x2 σ3 => ?_) (fun k1 hk1 => ?_)
  · exact kw_iret C Ce rfl (by simp) (fun _ _ => rfl) (Nat.le_of_ble_eq_true rfl) (Nat.le_of_ble_eq_true rfl) rfl d_Md_moreBits_25
  · refine kw_j (α := Unit) (pcj := 14) (Lj := fun x5 => [none]) (stj := fun x5 => []) (fun x5 σ6 => ?_) (fun k4 hk4 => ?_)
    · refine kw_iconst (v := 0) C d_Md_moreBits_14 (by decide) ?_
      refine kw_goto (tgt := 25) C d_Md_moreBits_15 (by decide) ?_
      exact kw_wk (hk1 0 σ6) ⟨Or.inl rfl, trivial⟩
    · refine kw_icmp_lt (tgt := 14) C d_Md_moreBits_4 (by decide) ?_ ?_
      · exact kw_wk (hk4 () σ) ⟨Or.inl rfl, trivial⟩
      · refine kw_iload_n C d_Md_moreBits_7 rfl ?_
        refine kw_sipush (v := 285) C d_Md_moreBits_8 (by decide) ?_
        refine kw_icmp_ne (tgt := 18) C d_Md_moreBits_11 (by decide) ?_ ?_
        · refine kw_iload_n C d_Md_moreBits_18 rfl ?_
          refine kw_sipush (v := 261) C d_Md_moreBits_19 (by decide) ?_
          refine kw_isub C d_Md_moreBits_22 ?_
          refine kw_iconst (v := 4) C d_Md_moreBits_23 (by decide) ?_
          refine kw_idiv C d_Md_moreBits_24 ?_
          exact kw_wk (hk1 ((a0 - 261) / 4) σ) ⟨Or.inl rfl, trivial⟩
        · exact kw_wk (hk4 () σ) ⟨Or.inl rfl, trivial⟩
/-! Md_lengthFrom -/
def rm_Md_lengthFrom : Room := { frames := 1, cells := 0, slots := 0, locals := 20 }
def F_Md_lengthFrom (n : Nat) (a0 : Int32) (σ : Mm) : Option (Int32 × Mm) :=
if a0 = 285 then (
some (258, σ)) else (
kf_l (α := Int32 × Int32) n (fun k1 x2 σ3 =>
if a0 ≤ x2.2 then (
some (x2.1, σ3)) else (
kf_c2 (F_Md_moreBits n x2.2 σ3) fun x4 σ5 =>
kf_let (x2.1 + ((1 : Int32) <<< (x4 &&& 31)) : Int32) fun x6 =>
kf_let (x2.2 + Int32.ofInt 1) fun x7 =>
k1 (x6, x7) σ5)) (3, 257) σ)
theorem d_Md_lengthFrom_0 : decode prog_14_method_50_code 0 = .ok (.iload_n 0, 1) := by decide +kernel
theorem d_Md_lengthFrom_1 : decode prog_14_method_50_code 1 = .ok (.sipush 285, 3) := by decide +kernel
theorem d_Md_lengthFrom_4 : decode prog_14_method_50_code 4 = .ok (.if_icmp .ne 7, 3) := by decide +kernel
theorem d_Md_lengthFrom_7 : decode prog_14_method_50_code 7 = .ok (.sipush 258, 3) := by decide +kernel
theorem d_Md_lengthFrom_10 : decode prog_14_method_50_code 10 = .ok (.ireturn, 1) := by decide +kernel
theorem d_Md_lengthFrom_11 : decode prog_14_method_50_code 11 = .ok (.iconst 3, 1) := by decide +kernel
theorem d_Md_lengthFrom_12 : decode prog_14_method_50_code 12 = .ok (.istore_n 1, 1) := by decide +kernel
theorem d_Md_lengthFrom_13 : decode prog_14_method_50_code 13 = .ok (.sipush 257, 3) := by decide +kernel
theorem d_Md_lengthFrom_16 : decode prog_14_method_50_code 16 = .ok (.istore_n 2, 1) := by decide +kernel
theorem d_Md_lengthFrom_17 : decode prog_14_method_50_code 17 = .ok (.iload_n 2, 1) := by decide +kernel
theorem d_Md_lengthFrom_18 : decode prog_14_method_50_code 18 = .ok (.iload_n 0, 1) := by decide +kernel
theorem d_Md_lengthFrom_19 : decode prog_14_method_50_code 19 = .ok (.if_icmp .ge 18, 3) := by decide +kernel
theorem d_Md_lengthFrom_22 : decode prog_14_method_50_code 22 = .ok (.iload_n 1, 1) := by decide +kernel
theorem d_Md_lengthFrom_23 : decode prog_14_method_50_code 23 = .ok (.iconst 1, 1) := by decide +kernel
theorem d_Md_lengthFrom_24 : decode prog_14_method_50_code 24 = .ok (.iload_n 2, 1) := by decide +kernel
theorem d_Md_lengthFrom_25 : decode prog_14_method_50_code 25 = .ok (.invokestatic 293, 3) := by decide +kernel
theorem d_Md_lengthFrom_28 : decode prog_14_method_50_code 28 = .ok (.ishl, 1) := by decide +kernel
theorem d_Md_lengthFrom_29 : decode prog_14_method_50_code 29 = .ok (.iadd, 1) := by decide +kernel
theorem d_Md_lengthFrom_30 : decode prog_14_method_50_code 30 = .ok (.istore_n 1, 1) := by decide +kernel
theorem d_Md_lengthFrom_31 : decode prog_14_method_50_code 31 = .ok (.iinc 2 1, 3) := by decide +kernel
theorem d_Md_lengthFrom_34 : decode prog_14_method_50_code 34 = .ok (.goto (-17), 3) := by decide +kernel
theorem d_Md_lengthFrom_37 : decode prog_14_method_50_code 37 = .ok (.iload_n 1, 1) := by decide +kernel
theorem d_Md_lengthFrom_38 : decode prog_14_method_50_code 38 = .ok (.ireturn, 1) := by decide +kernel
set_option maxRecDepth 100000 in
set_option maxHeartbeats 4000000 in
theorem c_Md_lengthFrom {l0 : Launch} (hl : l0.stackTraces = false) (n : Nat) (ids : List Nat)  (a0 : Int32) (σ : Mm) : kw_C l0 y_Md_lengthFrom (Cond.code y_Md_lengthFrom prog_14_method_50_code 3 (some .int) :: kw_Ts) rm_Md_lengthFrom kw_oi ids [] [.int a0] σ (F_Md_lengthFrom n a0 σ) := by
  refine kw_start (L0 := [some (.int a0), none, none]) hl (by decide +kernel) (Nat.le_of_ble_eq_true rfl) rfl (fun Γ ad C Ce => ?_)
  unfold F_Md_lengthFrom
  refine kw_iload_n C d_Md_lengthFrom_0 rfl ?_
  refine kw_sipush (v := 285) C d_Md_lengthFrom_1 (by decide) ?_
  refine kw_icmp_ne (tgt := 11) C d_Md_lengthFrom_4 (by decide) ?_ ?_
  · refine kw_iconst (v := 3) C d_Md_lengthFrom_11 (by decide) ?_
    refine kw_istore_n (L' := [some (.int a0), some (.int 3), none]) C d_Md_lengthFrom_12 (by decide) rfl ?_
    refine kw_sipush (v := 257) C d_Md_lengthFrom_13 (by decide) ?_
    refine kw_istore_n (L' := [some (.int a0), some (.int 3), some (.int 257)]) C d_Md_lengthFrom_16 (by decide) rfl ?_
    refine kw_wk (kw_l (α := Int32 × Int32) (pc := 17) (Lj := fun x2 => [some (.int a0), some (.int x2.1), some (.int x2.2)]) (stj := fun x2 => []) (fun k1 hk1 x2 σ3 => ?_) n (3, 257) σ) ⟨Or.inr rfl, Or.inr rfl, Or.inr rfl, trivial⟩
    refine kw_iload_n C d_Md_lengthFrom_17 rfl ?_
    refine kw_iload_n C d_Md_lengthFrom_18 rfl ?_
    refine kw_icmp_ge (tgt := 37) C d_Md_lengthFrom_19 (by decide) ?_ ?_
    · refine kw_iload_n C d_Md_lengthFrom_37 rfl ?_
      exact kw_iret C Ce rfl (by simp) (fun _ _ => rfl) (Nat.le_of_ble_eq_true rfl) (Nat.le_of_ble_eq_true rfl) rfl d_Md_lengthFrom_38
    · refine kw_iload_n C d_Md_lengthFrom_22 rfl ?_
      refine kw_iconst (v := 1) C d_Md_lengthFrom_23 (by decide) ?_
      refine kw_iload_n C d_Md_lengthFrom_24 rfl ?_
      refine kw_callSi (cl' := 0) (sl' := 0) (As := [.int x2.2]) C (c_Md_moreBits hl n ids  x2.2 σ3) mi_Md_293 s_Md_moreBits ⟨Nat.le_of_ble_eq_true rfl, Nat.le_of_ble_eq_true rfl⟩ (Nat.le_of_ble_eq_true rfl) ⟨Nat.le_of_ble_eq_true rfl, Nat.le_of_ble_eq_true rfl⟩ ⟨rfl, rfl⟩ rfl d_Md_lengthFrom_25 (fun x4 σ5 => ?_)
      refine kw_ishl C d_Md_lengthFrom_28 ?_
      refine kw_iadd C d_Md_lengthFrom_29 ?_
      refine kw_leti (fun x6 => ?_)
      refine kw_istore_n (L' := [some (.int a0), some (.int x6), some (.int x2.2)]) C d_Md_lengthFrom_30 (by decide) rfl ?_
      refine kw_iincL (L2 := fun x7 => [some (.int a0), some (.int x6), some (.int x7)]) C d_Md_lengthFrom_31 (by decide) rfl (fun _ => rfl) (fun x7 => ?_)
      refine kw_goto (tgt := 17) C d_Md_lengthFrom_34 (by decide) ?_
      exact kw_wk (hk1 (x6, x7) σ5) ⟨Or.inr rfl, Or.inr rfl, Or.inr rfl, trivial⟩
  · refine kw_sipush (v := 258) C d_Md_lengthFrom_7 (by decide) ?_
    exact kw_iret C Ce rfl (by simp) (fun _ _ => rfl) (Nat.le_of_ble_eq_true rfl) (Nat.le_of_ble_eq_true rfl) rfl d_Md_lengthFrom_10
/-! Md_moreDistance -/
def rm_Md_moreDistance : Room := { frames := 0, cells := 0, slots := 0, locals := 0 }
def F_Md_moreDistance (n : Nat) (a0 : Int32) (σ : Mm) : Option (Int32 × Mm) :=
kf_j (α := Int32) (fun x2 σ3 =>
some (x2, σ3)) fun k1 =>
if 4 ≤ a0 then (
kf_nz 2 <|
k1 ((a0 - 2) / 2) σ) else (
k1 0 σ)
theorem d_Md_moreDistance_0 : decode prog_14_method_51_code 0 = .ok (.iload_n 0, 1) := by decide +kernel
theorem d_Md_moreDistance_1 : decode prog_14_method_51_code 1 = .ok (.iconst 4, 1) := by decide +kernel
theorem d_Md_moreDistance_2 : decode prog_14_method_51_code 2 = .ok (.if_icmp .ge 7, 3) := by decide +kernel
theorem d_Md_moreDistance_5 : decode prog_14_method_51_code 5 = .ok (.iconst 0, 1) := by decide +kernel
theorem d_Md_moreDistance_6 : decode prog_14_method_51_code 6 = .ok (.goto 8, 3) := by decide +kernel
theorem d_Md_moreDistance_9 : decode prog_14_method_51_code 9 = .ok (.iload_n 0, 1) := by decide +kernel
theorem d_Md_moreDistance_10 : decode prog_14_method_51_code 10 = .ok (.iconst 2, 1) := by decide +kernel
theorem d_Md_moreDistance_11 : decode prog_14_method_51_code 11 = .ok (.isub, 1) := by decide +kernel
theorem d_Md_moreDistance_12 : decode prog_14_method_51_code 12 = .ok (.iconst 2, 1) := by decide +kernel
theorem d_Md_moreDistance_13 : decode prog_14_method_51_code 13 = .ok (.idiv, 1) := by decide +kernel
theorem d_Md_moreDistance_14 : decode prog_14_method_51_code 14 = .ok (.ireturn, 1) := by decide +kernel
set_option maxRecDepth 100000 in
set_option maxHeartbeats 4000000 in
theorem c_Md_moreDistance {l0 : Launch} (hl : l0.stackTraces = false) (n : Nat) (ids : List Nat)  (a0 : Int32) (σ : Mm) : kw_C l0 y_Md_moreDistance (Cond.code y_Md_moreDistance prog_14_method_51_code 1 (some .int) :: kw_Ts) rm_Md_moreDistance kw_oi ids [] [.int a0] σ (F_Md_moreDistance n a0 σ) := by
  refine kw_start (L0 := [some (.int a0)]) hl (by decide +kernel) (Nat.le_of_ble_eq_true rfl) rfl (fun Γ ad C Ce => ?_)
  unfold F_Md_moreDistance
  refine kw_iload_n C d_Md_moreDistance_0 rfl ?_
  refine kw_iconst (v := 4) C d_Md_moreDistance_1 (by decide) ?_
  refine kw_j (α := Int32) (pcj := 14) (Lj := fun x2 => [none]) (stj := fun x2 => [.int x2]) (fun x2 σ3 => ?_) (fun k1 hk1 => ?_)
  · exact kw_iret C Ce rfl (by simp) (fun _ _ => rfl) (Nat.le_of_ble_eq_true rfl) (Nat.le_of_ble_eq_true rfl) rfl d_Md_moreDistance_14
  · refine kw_icmp_ge (tgt := 9) C d_Md_moreDistance_2 (by decide) ?_ ?_
    · refine kw_iload_n C d_Md_moreDistance_9 rfl ?_
      refine kw_iconst (v := 2) C d_Md_moreDistance_10 (by decide) ?_
      refine kw_isub C d_Md_moreDistance_11 ?_
      refine kw_iconst (v := 2) C d_Md_moreDistance_12 (by decide) ?_
      refine kw_idiv C d_Md_moreDistance_13 ?_
      exact kw_wk (hk1 ((a0 - 2) / 2) σ) ⟨Or.inl rfl, trivial⟩
    · refine kw_iconst (v := 0) C d_Md_moreDistance_5 (by decide) ?_
      refine kw_goto (tgt := 14) C d_Md_moreDistance_6 (by decide) ?_
      exact kw_wk (hk1 0 σ) ⟨Or.inl rfl, trivial⟩
/-! Md_distanceFrom -/
def rm_Md_distanceFrom : Room := { frames := 1, cells := 0, slots := 0, locals := 20 }
def F_Md_distanceFrom (n : Nat) (a0 : Int32) (σ : Mm) : Option (Int32 × Mm) :=
kf_l (α := Int32 × Int32) n (fun k1 x2 σ3 =>
if a0 ≤ x2.2 then (
some (x2.1, σ3)) else (
kf_c2 (F_Md_moreDistance n x2.2 σ3) fun x4 σ5 =>
kf_let (x2.1 + ((1 : Int32) <<< (x4 &&& 31)) : Int32) fun x6 =>
kf_let (x2.2 + Int32.ofInt 1) fun x7 =>
k1 (x6, x7) σ5)) (1, 0) σ
theorem d_Md_distanceFrom_0 : decode prog_14_method_52_code 0 = .ok (.iconst 1, 1) := by decide +kernel
theorem d_Md_distanceFrom_1 : decode prog_14_method_52_code 1 = .ok (.istore_n 1, 1) := by decide +kernel
theorem d_Md_distanceFrom_2 : decode prog_14_method_52_code 2 = .ok (.iconst 0, 1) := by decide +kernel
theorem d_Md_distanceFrom_3 : decode prog_14_method_52_code 3 = .ok (.istore_n 2, 1) := by decide +kernel
theorem d_Md_distanceFrom_4 : decode prog_14_method_52_code 4 = .ok (.iload_n 2, 1) := by decide +kernel
theorem d_Md_distanceFrom_5 : decode prog_14_method_52_code 5 = .ok (.iload_n 0, 1) := by decide +kernel
theorem d_Md_distanceFrom_6 : decode prog_14_method_52_code 6 = .ok (.if_icmp .ge 18, 3) := by decide +kernel
theorem d_Md_distanceFrom_9 : decode prog_14_method_52_code 9 = .ok (.iload_n 1, 1) := by decide +kernel
theorem d_Md_distanceFrom_10 : decode prog_14_method_52_code 10 = .ok (.iconst 1, 1) := by decide +kernel
theorem d_Md_distanceFrom_11 : decode prog_14_method_52_code 11 = .ok (.iload_n 2, 1) := by decide +kernel
theorem d_Md_distanceFrom_12 : decode prog_14_method_52_code 12 = .ok (.invokestatic 296, 3) := by decide +kernel
theorem d_Md_distanceFrom_15 : decode prog_14_method_52_code 15 = .ok (.ishl, 1) := by decide +kernel
theorem d_Md_distanceFrom_16 : decode prog_14_method_52_code 16 = .ok (.iadd, 1) := by decide +kernel
theorem d_Md_distanceFrom_17 : decode prog_14_method_52_code 17 = .ok (.istore_n 1, 1) := by decide +kernel
theorem d_Md_distanceFrom_18 : decode prog_14_method_52_code 18 = .ok (.iinc 2 1, 3) := by decide +kernel
theorem d_Md_distanceFrom_21 : decode prog_14_method_52_code 21 = .ok (.goto (-17), 3) := by decide +kernel
theorem d_Md_distanceFrom_24 : decode prog_14_method_52_code 24 = .ok (.iload_n 1, 1) := by decide +kernel
theorem d_Md_distanceFrom_25 : decode prog_14_method_52_code 25 = .ok (.ireturn, 1) := by decide +kernel
set_option maxRecDepth 100000 in
set_option maxHeartbeats 4000000 in
theorem c_Md_distanceFrom {l0 : Launch} (hl : l0.stackTraces = false) (n : Nat) (ids : List Nat)  (a0 : Int32) (σ : Mm) : kw_C l0 y_Md_distanceFrom (Cond.code y_Md_distanceFrom prog_14_method_52_code 3 (some .int) :: kw_Ts) rm_Md_distanceFrom kw_oi ids [] [.int a0] σ (F_Md_distanceFrom n a0 σ) := by
  refine kw_start (L0 := [some (.int a0), none, none]) hl (by decide +kernel) (Nat.le_of_ble_eq_true rfl) rfl (fun Γ ad C Ce => ?_)
  unfold F_Md_distanceFrom
  refine kw_iconst (v := 1) C d_Md_distanceFrom_0 (by decide) ?_
  refine kw_istore_n (L' := [some (.int a0), some (.int 1), none]) C d_Md_distanceFrom_1 (by decide) rfl ?_
  refine kw_iconst (v := 0) C d_Md_distanceFrom_2 (by decide) ?_
  refine kw_istore_n (L' := [some (.int a0), some (.int 1), some (.int 0)]) C d_Md_distanceFrom_3 (by decide) rfl ?_
  refine kw_wk (kw_l (α := Int32 × Int32) (pc := 4) (Lj := fun x2 => [some (.int a0), some (.int x2.1), some (.int x2.2)]) (stj := fun x2 => []) (fun k1 hk1 x2 σ3 => ?_) n (1, 0) σ) ⟨Or.inr rfl, Or.inr rfl, Or.inr rfl, trivial⟩
  refine kw_iload_n C d_Md_distanceFrom_4 rfl ?_
  refine kw_iload_n C d_Md_distanceFrom_5 rfl ?_
  refine kw_icmp_ge (tgt := 24) C d_Md_distanceFrom_6 (by decide) ?_ ?_
  · refine kw_iload_n C d_Md_distanceFrom_24 rfl ?_
    exact kw_iret C Ce rfl (by simp) (fun _ _ => rfl) (Nat.le_of_ble_eq_true rfl) (Nat.le_of_ble_eq_true rfl) rfl d_Md_distanceFrom_25
  · refine kw_iload_n C d_Md_distanceFrom_9 rfl ?_
    refine kw_iconst (v := 1) C d_Md_distanceFrom_10 (by decide) ?_
    refine kw_iload_n C d_Md_distanceFrom_11 rfl ?_
    refine kw_callSi (cl' := 0) (sl' := 0) (As := [.int x2.2]) C (c_Md_moreDistance hl n ids  x2.2 σ3) mi_Md_296 s_Md_moreDistance ⟨Nat.le_of_ble_eq_true rfl, Nat.le_of_ble_eq_true rfl⟩ (Nat.le_of_ble_eq_true rfl) ⟨Nat.le_of_ble_eq_true rfl, Nat.le_of_ble_eq_true rfl⟩ ⟨rfl, rfl⟩ rfl d_Md_distanceFrom_12 (fun x4 σ5 => ?_)
    refine kw_ishl C d_Md_distanceFrom_15 ?_
    refine kw_iadd C d_Md_distanceFrom_16 ?_
    refine kw_leti (fun x6 => ?_)
    refine kw_istore_n (L' := [some (.int a0), some (.int x6), some (.int x2.2)]) C d_Md_distanceFrom_17 (by decide) rfl ?_
    refine kw_iincL (L2 := fun x7 => [some (.int a0), some (.int x6), some (.int x7)]) C d_Md_distanceFrom_18 (by decide) rfl (fun _ => rfl) (fun x7 => ?_)
    refine kw_goto (tgt := 4) C d_Md_distanceFrom_21 (by decide) ?_
    exact kw_wk (hk1 (x6, x7) σ5) ⟨Or.inr rfl, Or.inr rfl, Or.inr rfl, trivial⟩
/-! Md_copy -/
def rm_Md_copy : Room := { frames := 4, cells := 0, slots := 0, locals := 96 }
def F_Md_copy (n : Nat) (t : Nat) (a0 : Int32) (a1 : Int32) (σ : Mm) : Option (Int32 × Mm) :=
if a0 ≤ 285 then (
kf_c2 (F_Md_moreBits n a0 σ) fun x1 σ2 =>
kf_c2 (F_Md_hasBits n t x1 σ2) fun x3 σ4 =>
if x3 = 0 then (
kf_z 0 (some (0, σ4))) else (
kf_c2 (F_Md_lengthFrom n a0 σ4) fun x5 σ6 =>
kf_c2 (F_Md_moreBits n a0 σ6) fun x7 σ8 =>
kf_c2 (F_Md_bits n t x7 σ8) fun x9 σ10 =>
kf_let (x5 + x9 : Int32) fun x11 =>
kf_c2 (F_Md_placeOf n t (gJ σ10 (64 * t + 43)) σ10) fun x12 σ13 =>
kf_c2 (F_Md_isCode n t (gS σ13 (64 * t + 47)) (gS σ13 (64 * t + 48)) σ13) fun x14 σ15 =>
if x14 = 0 then (
kf_z 0 (some (0, σ15))) else (
kf_let (gS σ15 (64 * t + 49) : Int32) fun x16 =>
if x16 ≤ 29 then (
kf_c2 (F_Md_moreDistance n x16 σ15) fun x17 σ18 =>
kf_c2 (F_Md_hasBits n t x17 σ18) fun x19 σ20 =>
if x19 = 0 then (
kf_z 0 (some (0, σ20))) else (
kf_c2 (F_Md_distanceFrom n x16 σ20) fun x21 σ22 =>
kf_c2 (F_Md_moreDistance n x16 σ22) fun x23 σ24 =>
kf_c2 (F_Md_bits n t x23 σ24) fun x25 σ26 =>
kf_let (x21 + x25 : Int32) fun x27 =>
kf_j (α := Unit) (fun x29 σ30 =>
kf_c2 (F_Md_flaw n t 25 x12 σ30) fun x31 σ32 =>
kf_z x31 (some (x31, σ32))) fun k28 =>
if (gS σ26 (64 * t + 31)) < x27 then (
k28 () σ26) else (
if x27 ≤ (gS σ26 (64 * t + 44)) then (
if ((gS σ26 (64 * t + 31)) + x11) ≤ (gS σ26 (64 * t + 32)) then (
kf_l (α := Int32) n (fun k33 x34 σ35 =>
if x11 ≤ x34 then (
kf_z 1 (some (1, σ35))) else (
Option.bind (gR σ35 (64 * t + 30)) fun o36 =>
Option.bind (gR σ35 (64 * t + 30)) fun o37 =>
kf_let ((gS σ35 (64 * t + 31)) - x27 : Int32) fun x38 =>
kf_in x38 (mm_kd o37).2.2 <|
kf_in (gS σ35 (64 * t + 31)) (mm_kd o36).2.2 <| kf_let (pB σ35 o36 (gS σ35 (64 * t + 31)).toNatClampNeg (vp_nar .byte (gB σ35 o37 x38.toNatClampNeg))) fun σ39 =>
kf_let (pS σ39 (64 * t + 31) ((gS σ39 (64 * t + 31)) + 1)) fun σ40 =>
kf_let (x34 + Int32.ofInt 1) fun x41 =>
k33 x41 σ40)) 0 σ26) else (
kf_c2 (F_Md_flaw n t 26 a1 σ26) fun x42 σ43 =>
kf_z x42 (some (x42, σ43)))) else (
k28 () σ26)))) else (
kf_c2 (F_Md_flaw n t 25 x12 σ15) fun x44 σ45 =>
kf_z x44 (some (x44, σ45)))))) else (
kf_c2 (F_Md_flaw n t 25 a1 σ) fun x46 σ47 =>
kf_z x46 (some (x46, σ47)))
theorem d_Md_copy_0 : decode prog_14_method_53_code 0 = .ok (.iload_n 1, 1) := by decide +kernel
theorem d_Md_copy_1 : decode prog_14_method_53_code 1 = .ok (.sipush 285, 3) := by decide +kernel
theorem d_Md_copy_4 : decode prog_14_method_53_code 4 = .ok (.if_icmp .le 11, 3) := by decide +kernel
theorem d_Md_copy_7 : decode prog_14_method_53_code 7 = .ok (.aload_n 0, 1) := by decide +kernel
theorem d_Md_copy_8 : decode prog_14_method_53_code 8 = .ok (.bipush 25, 2) := by decide +kernel
theorem d_Md_copy_10 : decode prog_14_method_53_code 10 = .ok (.iload_n 2, 1) := by decide +kernel
theorem d_Md_copy_11 : decode prog_14_method_53_code 11 = .ok (.invokevirtual 122, 3) := by decide +kernel
theorem d_Md_copy_14 : decode prog_14_method_53_code 14 = .ok (.ireturn, 1) := by decide +kernel
theorem d_Md_copy_15 : decode prog_14_method_53_code 15 = .ok (.aload_n 0, 1) := by decide +kernel
theorem d_Md_copy_16 : decode prog_14_method_53_code 16 = .ok (.iload_n 1, 1) := by decide +kernel
theorem d_Md_copy_17 : decode prog_14_method_53_code 17 = .ok (.invokestatic 293, 3) := by decide +kernel
theorem d_Md_copy_20 : decode prog_14_method_53_code 20 = .ok (.invokevirtual 223, 3) := by decide +kernel
theorem d_Md_copy_23 : decode prog_14_method_53_code 23 = .ok (.ifCond .ne 5, 3) := by decide +kernel
theorem d_Md_copy_26 : decode prog_14_method_53_code 26 = .ok (.iconst 0, 1) := by decide +kernel
theorem d_Md_copy_27 : decode prog_14_method_53_code 27 = .ok (.ireturn, 1) := by decide +kernel
theorem d_Md_copy_28 : decode prog_14_method_53_code 28 = .ok (.iload_n 1, 1) := by decide +kernel
theorem d_Md_copy_29 : decode prog_14_method_53_code 29 = .ok (.invokestatic 299, 3) := by decide +kernel
theorem d_Md_copy_32 : decode prog_14_method_53_code 32 = .ok (.aload_n 0, 1) := by decide +kernel
theorem d_Md_copy_33 : decode prog_14_method_53_code 33 = .ok (.iload_n 1, 1) := by decide +kernel
theorem d_Md_copy_34 : decode prog_14_method_53_code 34 = .ok (.invokestatic 293, 3) := by decide +kernel
theorem d_Md_copy_37 : decode prog_14_method_53_code 37 = .ok (.invokevirtual 226, 3) := by decide +kernel
theorem d_Md_copy_40 : decode prog_14_method_53_code 40 = .ok (.iadd, 1) := by decide +kernel
theorem d_Md_copy_41 : decode prog_14_method_53_code 41 = .ok (.istore_n 3, 1) := by decide +kernel
theorem d_Md_copy_42 : decode prog_14_method_53_code 42 = .ok (.aload_n 0, 1) := by decide +kernel
theorem d_Md_copy_43 : decode prog_14_method_53_code 43 = .ok (.aload_n 0, 1) := by decide +kernel
theorem d_Md_copy_44 : decode prog_14_method_53_code 44 = .ok (.getfield 201, 3) := by decide +kernel
theorem d_Md_copy_47 : decode prog_14_method_53_code 47 = .ok (.invokevirtual 236, 3) := by decide +kernel
theorem d_Md_copy_50 : decode prog_14_method_53_code 50 = .ok (.istore 4, 2) := by decide +kernel
theorem d_Md_copy_52 : decode prog_14_method_53_code 52 = .ok (.aload_n 0, 1) := by decide +kernel
theorem d_Md_copy_53 : decode prog_14_method_53_code 53 = .ok (.aload_n 0, 1) := by decide +kernel
theorem d_Md_copy_54 : decode prog_14_method_53_code 54 = .ok (.getfield 278, 3) := by decide +kernel
theorem d_Md_copy_57 : decode prog_14_method_53_code 57 = .ok (.aload_n 0, 1) := by decide +kernel
theorem d_Md_copy_58 : decode prog_14_method_53_code 58 = .ok (.getfield 281, 3) := by decide +kernel
theorem d_Md_copy_61 : decode prog_14_method_53_code 61 = .ok (.invokevirtual 284, 3) := by decide +kernel
theorem d_Md_copy_64 : decode prog_14_method_53_code 64 = .ok (.ifCond .ne 5, 3) := by decide +kernel
theorem d_Md_copy_67 : decode prog_14_method_53_code 67 = .ok (.iconst 0, 1) := by decide +kernel
theorem d_Md_copy_68 : decode prog_14_method_53_code 68 = .ok (.ireturn, 1) := by decide +kernel
theorem d_Md_copy_69 : decode prog_14_method_53_code 69 = .ok (.aload_n 0, 1) := by decide +kernel
theorem d_Md_copy_70 : decode prog_14_method_53_code 70 = .ok (.getfield 216, 3) := by decide +kernel
theorem d_Md_copy_73 : decode prog_14_method_53_code 73 = .ok (.istore 5, 2) := by decide +kernel
theorem d_Md_copy_75 : decode prog_14_method_53_code 75 = .ok (.iload 5, 2) := by decide +kernel
theorem d_Md_copy_77 : decode prog_14_method_53_code 77 = .ok (.bipush 29, 2) := by decide +kernel
theorem d_Md_copy_79 : decode prog_14_method_53_code 79 = .ok (.if_icmp .le 12, 3) := by decide +kernel
theorem d_Md_copy_82 : decode prog_14_method_53_code 82 = .ok (.aload_n 0, 1) := by decide +kernel
theorem d_Md_copy_83 : decode prog_14_method_53_code 83 = .ok (.bipush 25, 2) := by decide +kernel
theorem d_Md_copy_85 : decode prog_14_method_53_code 85 = .ok (.iload 4, 2) := by decide +kernel
theorem d_Md_copy_87 : decode prog_14_method_53_code 87 = .ok (.invokevirtual 122, 3) := by decide +kernel
theorem d_Md_copy_90 : decode prog_14_method_53_code 90 = .ok (.ireturn, 1) := by decide +kernel
theorem d_Md_copy_91 : decode prog_14_method_53_code 91 = .ok (.aload_n 0, 1) := by decide +kernel
theorem d_Md_copy_92 : decode prog_14_method_53_code 92 = .ok (.iload 5, 2) := by decide +kernel
theorem d_Md_copy_94 : decode prog_14_method_53_code 94 = .ok (.invokestatic 296, 3) := by decide +kernel
theorem d_Md_copy_97 : decode prog_14_method_53_code 97 = .ok (.invokevirtual 223, 3) := by decide +kernel
theorem d_Md_copy_100 : decode prog_14_method_53_code 100 = .ok (.ifCond .ne 5, 3) := by decide +kernel
theorem d_Md_copy_103 : decode prog_14_method_53_code 103 = .ok (.iconst 0, 1) := by decide +kernel
theorem d_Md_copy_104 : decode prog_14_method_53_code 104 = .ok (.ireturn, 1) := by decide +kernel
theorem d_Md_copy_105 : decode prog_14_method_53_code 105 = .ok (.iload 5, 2) := by decide +kernel
theorem d_Md_copy_107 : decode prog_14_method_53_code 107 = .ok (.invokestatic 302, 3) := by decide +kernel
theorem d_Md_copy_110 : decode prog_14_method_53_code 110 = .ok (.aload_n 0, 1) := by decide +kernel
theorem d_Md_copy_111 : decode prog_14_method_53_code 111 = .ok (.iload 5, 2) := by decide +kernel
theorem d_Md_copy_113 : decode prog_14_method_53_code 113 = .ok (.invokestatic 296, 3) := by decide +kernel
theorem d_Md_copy_116 : decode prog_14_method_53_code 116 = .ok (.invokevirtual 226, 3) := by decide +kernel
theorem d_Md_copy_119 : decode prog_14_method_53_code 119 = .ok (.iadd, 1) := by decide +kernel
theorem d_Md_copy_120 : decode prog_14_method_53_code 120 = .ok (.istore 6, 2) := by decide +kernel
theorem d_Md_copy_122 : decode prog_14_method_53_code 122 = .ok (.iload 6, 2) := by decide +kernel
theorem d_Md_copy_124 : decode prog_14_method_53_code 124 = .ok (.aload_n 0, 1) := by decide +kernel
theorem d_Md_copy_125 : decode prog_14_method_53_code 125 = .ok (.getfield 240, 3) := by decide +kernel
theorem d_Md_copy_128 : decode prog_14_method_53_code 128 = .ok (.if_icmp .gt 12, 3) := by decide +kernel
theorem d_Md_copy_131 : decode prog_14_method_53_code 131 = .ok (.iload 6, 2) := by decide +kernel
theorem d_Md_copy_133 : decode prog_14_method_53_code 133 = .ok (.aload_n 0, 1) := by decide +kernel
theorem d_Md_copy_134 : decode prog_14_method_53_code 134 = .ok (.getfield 243, 3) := by decide +kernel
theorem d_Md_copy_137 : decode prog_14_method_53_code 137 = .ok (.if_icmp .le 12, 3) := by decide +kernel
theorem d_Md_copy_140 : decode prog_14_method_53_code 140 = .ok (.aload_n 0, 1) := by decide +kernel
theorem d_Md_copy_141 : decode prog_14_method_53_code 141 = .ok (.bipush 25, 2) := by decide +kernel
theorem d_Md_copy_143 : decode prog_14_method_53_code 143 = .ok (.iload 4, 2) := by decide +kernel
theorem d_Md_copy_145 : decode prog_14_method_53_code 145 = .ok (.invokevirtual 122, 3) := by decide +kernel
theorem d_Md_copy_148 : decode prog_14_method_53_code 148 = .ok (.ireturn, 1) := by decide +kernel
theorem d_Md_copy_149 : decode prog_14_method_53_code 149 = .ok (.aload_n 0, 1) := by decide +kernel
theorem d_Md_copy_150 : decode prog_14_method_53_code 150 = .ok (.getfield 240, 3) := by decide +kernel
theorem d_Md_copy_153 : decode prog_14_method_53_code 153 = .ok (.iload_n 3, 1) := by decide +kernel
theorem d_Md_copy_154 : decode prog_14_method_53_code 154 = .ok (.iadd, 1) := by decide +kernel
theorem d_Md_copy_155 : decode prog_14_method_53_code 155 = .ok (.aload_n 0, 1) := by decide +kernel
theorem d_Md_copy_156 : decode prog_14_method_53_code 156 = .ok (.getfield 262, 3) := by decide +kernel
theorem d_Md_copy_159 : decode prog_14_method_53_code 159 = .ok (.if_icmp .le 11, 3) := by decide +kernel
theorem d_Md_copy_162 : decode prog_14_method_53_code 162 = .ok (.aload_n 0, 1) := by decide +kernel
theorem d_Md_copy_163 : decode prog_14_method_53_code 163 = .ok (.bipush 26, 2) := by decide +kernel
theorem d_Md_copy_165 : decode prog_14_method_53_code 165 = .ok (.iload_n 2, 1) := by decide +kernel
theorem d_Md_copy_166 : decode prog_14_method_53_code 166 = .ok (.invokevirtual 122, 3) := by decide +kernel
theorem d_Md_copy_169 : decode prog_14_method_53_code 169 = .ok (.ireturn, 1) := by decide +kernel
theorem d_Md_copy_170 : decode prog_14_method_53_code 170 = .ok (.iconst 0, 1) := by decide +kernel
theorem d_Md_copy_171 : decode prog_14_method_53_code 171 = .ok (.istore 7, 2) := by decide +kernel
theorem d_Md_copy_173 : decode prog_14_method_53_code 173 = .ok (.iload 7, 2) := by decide +kernel
theorem d_Md_copy_175 : decode prog_14_method_53_code 175 = .ok (.iload_n 3, 1) := by decide +kernel
theorem d_Md_copy_176 : decode prog_14_method_53_code 176 = .ok (.if_icmp .ge 40, 3) := by decide +kernel
theorem d_Md_copy_179 : decode prog_14_method_53_code 179 = .ok (.aload_n 0, 1) := by decide +kernel
theorem d_Md_copy_180 : decode prog_14_method_53_code 180 = .ok (.getfield 40, 3) := by decide +kernel
theorem d_Md_copy_183 : decode prog_14_method_53_code 183 = .ok (.aload_n 0, 1) := by decide +kernel
theorem d_Md_copy_184 : decode prog_14_method_53_code 184 = .ok (.getfield 240, 3) := by decide +kernel
theorem d_Md_copy_187 : decode prog_14_method_53_code 187 = .ok (.aload_n 0, 1) := by decide +kernel
theorem d_Md_copy_188 : decode prog_14_method_53_code 188 = .ok (.getfield 40, 3) := by decide +kernel
theorem d_Md_copy_191 : decode prog_14_method_53_code 191 = .ok (.aload_n 0, 1) := by decide +kernel
theorem d_Md_copy_192 : decode prog_14_method_53_code 192 = .ok (.getfield 240, 3) := by decide +kernel
theorem d_Md_copy_195 : decode prog_14_method_53_code 195 = .ok (.iload 6, 2) := by decide +kernel
theorem d_Md_copy_197 : decode prog_14_method_53_code 197 = .ok (.isub, 1) := by decide +kernel
theorem d_Md_copy_198 : decode prog_14_method_53_code 198 = .ok (.baload, 1) := by decide +kernel
theorem d_Md_copy_199 : decode prog_14_method_53_code 199 = .ok (.bastore, 1) := by decide +kernel
theorem d_Md_copy_200 : decode prog_14_method_53_code 200 = .ok (.aload_n 0, 1) := by decide +kernel
theorem d_Md_copy_201 : decode prog_14_method_53_code 201 = .ok (.dup, 1) := by decide +kernel
theorem d_Md_copy_202 : decode prog_14_method_53_code 202 = .ok (.getfield 240, 3) := by decide +kernel
theorem d_Md_copy_205 : decode prog_14_method_53_code 205 = .ok (.iconst 1, 1) := by decide +kernel
theorem d_Md_copy_206 : decode prog_14_method_53_code 206 = .ok (.iadd, 1) := by decide +kernel
theorem d_Md_copy_207 : decode prog_14_method_53_code 207 = .ok (.putfield 240, 3) := by decide +kernel
theorem d_Md_copy_210 : decode prog_14_method_53_code 210 = .ok (.iinc 7 1, 3) := by decide +kernel
theorem d_Md_copy_213 : decode prog_14_method_53_code 213 = .ok (.goto (-40), 3) := by decide +kernel
theorem d_Md_copy_216 : decode prog_14_method_53_code 216 = .ok (.iconst 1, 1) := by decide +kernel
theorem d_Md_copy_217 : decode prog_14_method_53_code 217 = .ok (.ireturn, 1) := by decide +kernel
set_option maxRecDepth 100000 in
set_option maxHeartbeats 4000000 in
theorem c_Md_copy {l0 : Launch} (hl : l0.stackTraces = false) (n : Nat) (ids : List Nat) {t : Nat} (ht : mm_ok ids t 1 12) (a0 : Int32) (a1 : Int32) (σ : Mm) : kw_C l0 y_Md_copy (Cond.code y_Md_copy prog_14_method_53_code 8 (some .boolean) :: kw_Ts) rm_Md_copy kw_oi ids [] [.ref t, .int a0, .int a1] σ (F_Md_copy n t a0 a1 σ) := by
  refine kw_start (L0 := [some (.ref t), some (.int a0), some (.int a1), none, none, none, none, none]) hl (by decide +kernel) (Nat.le_of_ble_eq_true rfl) rfl (fun Γ ad C Ce => ?_)
  unfold F_Md_copy
  refine kw_iload_n C d_Md_copy_0 rfl ?_
  refine kw_sipush (v := 285) C d_Md_copy_1 (by decide) ?_
  refine kw_icmp_le (tgt := 15) C d_Md_copy_4 (by decide) ?_ ?_
  · refine kw_aload_n C d_Md_copy_15 rfl ?_
    refine kw_iload_n C d_Md_copy_16 rfl ?_
    refine kw_callSi (cl' := 0) (sl' := 0) (As := [.int a0]) C (c_Md_moreBits hl n ids  a0 σ) mi_Md_293 s_Md_moreBits ⟨Nat.le_of_ble_eq_true rfl, Nat.le_of_ble_eq_true rfl⟩ (Nat.le_of_ble_eq_true rfl) ⟨Nat.le_of_ble_eq_true rfl, Nat.le_of_ble_eq_true rfl⟩ ⟨rfl, rfl⟩ rfl d_Md_copy_17 (fun x1 σ2 => ?_)
    refine kw_callVi (cl' := 0) (sl' := 0) (As := [.int x1]) C (c_Md_hasBits hl n ids ht x1 σ2) mi_Md_223 v_Md_hasBits ⟨_, _, rfl⟩ ht ⟨Nat.le_of_ble_eq_true rfl, Nat.le_of_ble_eq_true rfl⟩ (Nat.le_of_ble_eq_true rfl) ⟨Nat.le_of_ble_eq_true rfl, Nat.le_of_ble_eq_true rfl⟩ ⟨rfl, rfl⟩ rfl d_Md_copy_20 (fun x3 σ4 => ?_)
    refine kw_if_ne (tgt := 28) C d_Md_copy_23 (by decide) ?_ ?_
    · refine kw_iload_n C d_Md_copy_28 rfl ?_
      refine kw_callSi (cl' := 0) (sl' := 0) (As := [.int a0]) C (c_Md_lengthFrom hl n ids  a0 σ4) mi_Md_299 s_Md_lengthFrom ⟨Nat.le_of_ble_eq_true rfl, Nat.le_of_ble_eq_true rfl⟩ (Nat.le_of_ble_eq_true rfl) ⟨Nat.le_of_ble_eq_true rfl, Nat.le_of_ble_eq_true rfl⟩ ⟨rfl, rfl⟩ rfl d_Md_copy_29 (fun x5 σ6 => ?_)
      refine kw_aload_n C d_Md_copy_32 rfl ?_
      refine kw_iload_n C d_Md_copy_33 rfl ?_
      refine kw_callSi (cl' := 0) (sl' := 0) (As := [.int a0]) C (c_Md_moreBits hl n ids  a0 σ6) mi_Md_293 s_Md_moreBits ⟨Nat.le_of_ble_eq_true rfl, Nat.le_of_ble_eq_true rfl⟩ (Nat.le_of_ble_eq_true rfl) ⟨Nat.le_of_ble_eq_true rfl, Nat.le_of_ble_eq_true rfl⟩ ⟨rfl, rfl⟩ rfl d_Md_copy_34 (fun x7 σ8 => ?_)
      refine kw_callVi (cl' := 0) (sl' := 0) (As := [.int x7]) C (c_Md_bits hl n ids ht x7 σ8) mi_Md_226 v_Md_bits ⟨_, _, rfl⟩ ht ⟨Nat.le_of_ble_eq_true rfl, Nat.le_of_ble_eq_true rfl⟩ (Nat.le_of_ble_eq_true rfl) ⟨Nat.le_of_ble_eq_true rfl, Nat.le_of_ble_eq_true rfl⟩ ⟨rfl, rfl⟩ rfl d_Md_copy_37 (fun x9 σ10 => ?_)
      refine kw_iadd C d_Md_copy_40 ?_
      refine kw_leti (fun x11 => ?_)
      refine kw_istore_n (L' := [some (.ref t), some (.int a0), some (.int a1), some (.int x11), none, none, none, none]) C d_Md_copy_41 (by decide) rfl ?_
      refine kw_aload_n C d_Md_copy_42 rfl ?_
      refine kw_aload_n C d_Md_copy_43 rfl ?_
      refine kw_getJ C fi_Md_201 rfl ht d_Md_copy_44 ?_
      refine kw_callVi (cl' := 0) (sl' := 0) (As := [.long (gJ σ10 (64 * t + 43))]) C (c_Md_placeOf hl n ids ht (gJ σ10 (64 * t + 43)) σ10) mi_Md_236 v_Md_placeOf ⟨_, _, rfl⟩ ht ⟨Nat.le_of_ble_eq_true rfl, Nat.le_of_ble_eq_true rfl⟩ (Nat.le_of_ble_eq_true rfl) ⟨Nat.le_of_ble_eq_true rfl, Nat.le_of_ble_eq_true rfl⟩ ⟨rfl, rfl⟩ rfl d_Md_copy_47 (fun x12 σ13 => ?_)
      refine kw_istore (L' := [some (.ref t), some (.int a0), some (.int a1), some (.int x11), some (.int x12), none, none, none]) C d_Md_copy_50 (by decide) rfl ?_
      refine kw_aload_n C d_Md_copy_52 rfl ?_
      refine kw_aload_n C d_Md_copy_53 rfl ?_
      refine kw_getI C fi_Md_278 (Or.inl rfl) ht d_Md_copy_54 ?_
      refine kw_aload_n C d_Md_copy_57 rfl ?_
      refine kw_getI C fi_Md_281 (Or.inl rfl) ht d_Md_copy_58 ?_
      refine kw_callVi (cl' := 0) (sl' := 0) (As := [.int (gS σ13 (64 * t + 47)), .int (gS σ13 (64 * t + 48))]) C (c_Md_isCode hl n ids ht (gS σ13 (64 * t + 47)) (gS σ13 (64 * t + 48)) σ13) mi_Md_284 v_Md_isCode ⟨_, _, rfl⟩ ht ⟨Nat.le_of_ble_eq_true rfl, Nat.le_of_ble_eq_true rfl⟩ (Nat.le_of_ble_eq_true rfl) ⟨Nat.le_of_ble_eq_true rfl, Nat.le_of_ble_eq_true rfl⟩ ⟨rfl, rfl⟩ rfl d_Md_copy_61 (fun x14 σ15 => ?_)
      refine kw_if_ne (tgt := 69) C d_Md_copy_64 (by decide) ?_ ?_
      · refine kw_aload_n C d_Md_copy_69 rfl ?_
        refine kw_getI C fi_Md_216 (Or.inl rfl) ht d_Md_copy_70 ?_
        refine kw_leti (fun x16 => ?_)
        refine kw_istore (L' := [some (.ref t), some (.int a0), some (.int a1), some (.int x11), some (.int x12), some (.int x16), none, none]) C d_Md_copy_73 (by decide) rfl ?_
        refine kw_iload C d_Md_copy_75 rfl ?_
        refine kw_bipush (v := 29) C d_Md_copy_77 (by decide) ?_
        refine kw_icmp_le (tgt := 91) C d_Md_copy_79 (by decide) ?_ ?_
        · refine kw_aload_n C d_Md_copy_91 rfl ?_
          refine kw_iload C d_Md_copy_92 rfl ?_
          refine kw_callSi (cl' := 0) (sl' := 0) (As := [.int x16]) C (c_Md_moreDistance hl n ids  x16 σ15) mi_Md_296 s_Md_moreDistance ⟨Nat.le_of_ble_eq_true rfl, Nat.le_of_ble_eq_true rfl⟩ (Nat.le_of_ble_eq_true rfl) ⟨Nat.le_of_ble_eq_true rfl, Nat.le_of_ble_eq_true rfl⟩ ⟨rfl, rfl⟩ rfl d_Md_copy_94 (fun x17 σ18 => ?_)
          refine kw_callVi (cl' := 0) (sl' := 0) (As := [.int x17]) C (c_Md_hasBits hl n ids ht x17 σ18) mi_Md_223 v_Md_hasBits ⟨_, _, rfl⟩ ht ⟨Nat.le_of_ble_eq_true rfl, Nat.le_of_ble_eq_true rfl⟩ (Nat.le_of_ble_eq_true rfl) ⟨Nat.le_of_ble_eq_true rfl, Nat.le_of_ble_eq_true rfl⟩ ⟨rfl, rfl⟩ rfl d_Md_copy_97 (fun x19 σ20 => ?_)
          refine kw_if_ne (tgt := 105) C d_Md_copy_100 (by decide) ?_ ?_
          · refine kw_iload C d_Md_copy_105 rfl ?_
            refine kw_callSi (cl' := 0) (sl' := 0) (As := [.int x16]) C (c_Md_distanceFrom hl n ids  x16 σ20) mi_Md_302 s_Md_distanceFrom ⟨Nat.le_of_ble_eq_true rfl, Nat.le_of_ble_eq_true rfl⟩ (Nat.le_of_ble_eq_true rfl) ⟨Nat.le_of_ble_eq_true rfl, Nat.le_of_ble_eq_true rfl⟩ ⟨rfl, rfl⟩ rfl d_Md_copy_107 (fun x21 σ22 => ?_)
            refine kw_aload_n C d_Md_copy_110 rfl ?_
            refine kw_iload C d_Md_copy_111 rfl ?_
            refine kw_callSi (cl' := 0) (sl' := 0) (As := [.int x16]) C (c_Md_moreDistance hl n ids  x16 σ22) mi_Md_296 s_Md_moreDistance ⟨Nat.le_of_ble_eq_true rfl, Nat.le_of_ble_eq_true rfl⟩ (Nat.le_of_ble_eq_true rfl) ⟨Nat.le_of_ble_eq_true rfl, Nat.le_of_ble_eq_true rfl⟩ ⟨rfl, rfl⟩ rfl d_Md_copy_113 (fun x23 σ24 => ?_)
            refine kw_callVi (cl' := 0) (sl' := 0) (As := [.int x23]) C (c_Md_bits hl n ids ht x23 σ24) mi_Md_226 v_Md_bits ⟨_, _, rfl⟩ ht ⟨Nat.le_of_ble_eq_true rfl, Nat.le_of_ble_eq_true rfl⟩ (Nat.le_of_ble_eq_true rfl) ⟨Nat.le_of_ble_eq_true rfl, Nat.le_of_ble_eq_true rfl⟩ ⟨rfl, rfl⟩ rfl d_Md_copy_116 (fun x25 σ26 => ?_)
            refine kw_iadd C d_Md_copy_119 ?_
            refine kw_leti (fun x27 => ?_)
            refine kw_istore (L' := [some (.ref t), some (.int a0), some (.int a1), some (.int x11), some (.int x12), some (.int x16), some (.int x27), none]) C d_Md_copy_120 (by decide) rfl ?_
            refine kw_iload C d_Md_copy_122 rfl ?_
            refine kw_aload_n C d_Md_copy_124 rfl ?_
            refine kw_getI C fi_Md_240 (Or.inl rfl) ht d_Md_copy_125 ?_
            refine kw_j (α := Unit) (pcj := 140) (Lj := fun x29 => [some (.ref t), none, none, none, some (.int x12), none, none, none]) (stj := fun x29 => []) (fun x29 σ30 => ?_) (fun k28 hk28 => ?_)
            · refine kw_aload_n C d_Md_copy_140 rfl ?_
              refine kw_bipush (v := 25) C d_Md_copy_141 (by decide) ?_
              refine kw_iload C d_Md_copy_143 rfl ?_
              refine kw_callVi (cl' := 0) (sl' := 0) (As := [.int 25, .int x12]) C (c_Md_flaw hl n ids ht 25 x12 σ30) mi_Md_122 v_Md_flaw ⟨_, _, rfl⟩ ht ⟨Nat.le_of_ble_eq_true rfl, Nat.le_of_ble_eq_true rfl⟩ (Nat.le_of_ble_eq_true rfl) ⟨Nat.le_of_ble_eq_true rfl, Nat.le_of_ble_eq_true rfl⟩ ⟨rfl, rfl⟩ rfl d_Md_copy_145 (fun x31 σ32 => ?_)
              exact kw_zret C Ce rfl (by simp) (fun _ _ => rfl) (Nat.le_of_ble_eq_true rfl) (Nat.le_of_ble_eq_true rfl) rfl d_Md_copy_148
            · refine kw_icmp_gt (tgt := 140) C d_Md_copy_128 (by decide) ?_ ?_
              · exact kw_wk (hk28 () σ26) ⟨Or.inr rfl, Or.inl rfl, Or.inl rfl, Or.inl rfl, Or.inr rfl, Or.inl rfl, Or.inl rfl, Or.inl rfl, trivial⟩
              · refine kw_iload C d_Md_copy_131 rfl ?_
                refine kw_aload_n C d_Md_copy_133 rfl ?_
                refine kw_getI C fi_Md_243 (Or.inl rfl) ht d_Md_copy_134 ?_
                refine kw_icmp_le (tgt := 149) C d_Md_copy_137 (by decide) ?_ ?_
                · refine kw_aload_n C d_Md_copy_149 rfl ?_
                  refine kw_getI C fi_Md_240 (Or.inl rfl) ht d_Md_copy_150 ?_
                  refine kw_iload_n C d_Md_copy_153 rfl ?_
                  refine kw_iadd C d_Md_copy_154 ?_
                  refine kw_aload_n C d_Md_copy_155 rfl ?_
                  refine kw_getI C fi_Md_262 (Or.inl rfl) ht d_Md_copy_156 ?_
                  refine kw_icmp_le (tgt := 170) C d_Md_copy_159 (by decide) ?_ ?_
                  · refine kw_iconst (v := 0) C d_Md_copy_170 (by decide) ?_
                    refine kw_istore (L' := [some (.ref t), some (.int a0), some (.int a1), some (.int x11), some (.int x12), some (.int x16), some (.int x27), some (.int 0)]) C d_Md_copy_171 (by decide) rfl ?_
                    refine kw_wk (kw_l (α := Int32) (pc := 173) (Lj := fun x34 => [some (.ref t), none, none, some (.int x11), none, none, some (.int x27), some (.int x34)]) (stj := fun x34 => []) (fun k33 hk33 x34 σ35 => ?_) n 0 σ26) ⟨Or.inr rfl, Or.inl rfl, Or.inl rfl, Or.inr rfl, Or.inl rfl, Or.inl rfl, Or.inr rfl, Or.inr rfl, trivial⟩
                    refine kw_iload C d_Md_copy_173 rfl ?_
                    refine kw_iload_n C d_Md_copy_175 rfl ?_
                    refine kw_icmp_ge (tgt := 216) C d_Md_copy_176 (by decide) ?_ ?_
                    · refine kw_iconst (v := 1) C d_Md_copy_216 (by decide) ?_
                      exact kw_zret C Ce rfl (by simp) (fun _ _ => rfl) (Nat.le_of_ble_eq_true rfl) (Nat.le_of_ble_eq_true rfl) rfl d_Md_copy_217
                    · refine kw_aload_n C d_Md_copy_179 rfl ?_
                      refine kw_getR C fi_Md_40 rfl rfl ht d_Md_copy_180 (fun o36 ho36 => ?_)
                      refine kw_aload_n C d_Md_copy_183 rfl ?_
                      refine kw_getI C fi_Md_240 (Or.inl rfl) ht d_Md_copy_184 ?_
                      refine kw_aload_n C d_Md_copy_187 rfl ?_
                      refine kw_getR C fi_Md_40 rfl rfl ht d_Md_copy_188 (fun o37 ho37 => ?_)
                      refine kw_aload_n C d_Md_copy_191 rfl ?_
                      refine kw_getI C fi_Md_240 (Or.inl rfl) ht d_Md_copy_192 ?_
                      refine kw_iload C d_Md_copy_195 rfl ?_
                      refine kw_isub C d_Md_copy_197 ?_
                      refine kw_leti (fun x38 => ?_)
                      refine kw_bald C ho37 d_Md_copy_198 ?_
                      refine kw_bast C ho36 d_Md_copy_199 (fun σ39 => ?_)
                      refine kw_aload_n C d_Md_copy_200 rfl ?_
                      refine kw_dup C d_Md_copy_201 rfl ?_
                      refine kw_getI C fi_Md_240 (Or.inl rfl) ht d_Md_copy_202 ?_
                      refine kw_iconst (v := 1) C d_Md_copy_205 (by decide) ?_
                      refine kw_iadd C d_Md_copy_206 ?_
                      refine kw_putI C fi_Md_240 rfl ht d_Md_copy_207 (fun σ40 => ?_)
                      refine kw_iincL (L2 := fun x41 => [some (.ref t), none, none, some (.int x11), none, none, some (.int x27), some (.int x41)]) C d_Md_copy_210 (by decide) rfl (fun _ => rfl) (fun x41 => ?_)
                      refine kw_goto (tgt := 173) C d_Md_copy_213 (by decide) ?_
                      exact kw_wk (hk33 x41 σ40) ⟨Or.inr rfl, Or.inl rfl, Or.inl rfl, Or.inr rfl, Or.inl rfl, Or.inl rfl, Or.inr rfl, Or.inr rfl, trivial⟩
                  · refine kw_aload_n C d_Md_copy_162 rfl ?_
                    refine kw_bipush (v := 26) C d_Md_copy_163 (by decide) ?_
                    refine kw_iload_n C d_Md_copy_165 rfl ?_
                    refine kw_callVi (cl' := 0) (sl' := 0) (As := [.int 26, .int a1]) C (c_Md_flaw hl n ids ht 26 a1 σ26) mi_Md_122 v_Md_flaw ⟨_, _, rfl⟩ ht ⟨Nat.le_of_ble_eq_true rfl, Nat.le_of_ble_eq_true rfl⟩ (Nat.le_of_ble_eq_true rfl) ⟨Nat.le_of_ble_eq_true rfl, Nat.le_of_ble_eq_true rfl⟩ ⟨rfl, rfl⟩ rfl d_Md_copy_166 (fun x42 σ43 => ?_)
                    exact kw_zret C Ce rfl (by simp) (fun _ _ => rfl) (Nat.le_of_ble_eq_true rfl) (Nat.le_of_ble_eq_true rfl) rfl d_Md_copy_169
                · exact kw_wk (hk28 () σ26) ⟨Or.inr rfl, Or.inl rfl, Or.inl rfl, Or.inl rfl, Or.inr rfl, Or.inl rfl, Or.inl rfl, Or.inl rfl, trivial⟩
          · refine kw_iconst (v := 0) C d_Md_copy_103 (by decide) ?_
            exact kw_zret C Ce rfl (by simp) (fun _ _ => rfl) (Nat.le_of_ble_eq_true rfl) (Nat.le_of_ble_eq_true rfl) rfl d_Md_copy_104
        · refine kw_aload_n C d_Md_copy_82 rfl ?_
          refine kw_bipush (v := 25) C d_Md_copy_83 (by decide) ?_
          refine kw_iload C d_Md_copy_85 rfl ?_
          refine kw_callVi (cl' := 0) (sl' := 0) (As := [.int 25, .int x12]) C (c_Md_flaw hl n ids ht 25 x12 σ15) mi_Md_122 v_Md_flaw ⟨_, _, rfl⟩ ht ⟨Nat.le_of_ble_eq_true rfl, Nat.le_of_ble_eq_true rfl⟩ (Nat.le_of_ble_eq_true rfl) ⟨Nat.le_of_ble_eq_true rfl, Nat.le_of_ble_eq_true rfl⟩ ⟨rfl, rfl⟩ rfl d_Md_copy_87 (fun x44 σ45 => ?_)
          exact kw_zret C Ce rfl (by simp) (fun _ _ => rfl) (Nat.le_of_ble_eq_true rfl) (Nat.le_of_ble_eq_true rfl) rfl d_Md_copy_90
      · refine kw_iconst (v := 0) C d_Md_copy_67 (by decide) ?_
        exact kw_zret C Ce rfl (by simp) (fun _ _ => rfl) (Nat.le_of_ble_eq_true rfl) (Nat.le_of_ble_eq_true rfl) rfl d_Md_copy_68
    · refine kw_iconst (v := 0) C d_Md_copy_26 (by decide) ?_
      exact kw_zret C Ce rfl (by simp) (fun _ _ => rfl) (Nat.le_of_ble_eq_true rfl) (Nat.le_of_ble_eq_true rfl) rfl d_Md_copy_27
  · refine kw_aload_n C d_Md_copy_7 rfl ?_
    refine kw_bipush (v := 25) C d_Md_copy_8 (by decide) ?_
    refine kw_iload_n C d_Md_copy_10 rfl ?_
    refine kw_callVi (cl' := 0) (sl' := 0) (As := [.int 25, .int a1]) C (c_Md_flaw hl n ids ht 25 a1 σ) mi_Md_122 v_Md_flaw ⟨_, _, rfl⟩ ht ⟨Nat.le_of_ble_eq_true rfl, Nat.le_of_ble_eq_true rfl⟩ (Nat.le_of_ble_eq_true rfl) ⟨Nat.le_of_ble_eq_true rfl, Nat.le_of_ble_eq_true rfl⟩ ⟨rfl, rfl⟩ rfl d_Md_copy_11 (fun x46 σ47 => ?_)
    exact kw_zret C Ce rfl (by simp) (fun _ _ => rfl) (Nat.le_of_ble_eq_true rfl) (Nat.le_of_ble_eq_true rfl) rfl d_Md_copy_14
/-! Md_single -/
def rm_Md_single : Room := { frames := 1, cells := 0, slots := 0, locals := 22 }
def F_Md_single (n : Nat) (t : Nat) (a0 : Int32) (a1 : Int32) (σ : Mm) : Option (Int32 × Mm) :=
if (gS σ (64 * t + 31)) = (gS σ (64 * t + 32)) then (
kf_c2 (F_Md_flaw n t 26 a1 σ) fun x4 σ5 =>
kf_z x4 (some (x4, σ5))) else (
Option.bind (gR σ (64 * t + 30)) fun o1 =>
kf_in (gS σ (64 * t + 31)) (mm_kd o1).2.2 <| kf_let (pB σ o1 (gS σ (64 * t + 31)).toNatClampNeg (vp_nar .byte a0.toInt8.toInt32)) fun σ2 =>
kf_let (pS σ2 (64 * t + 31) ((gS σ2 (64 * t + 31)) + 1)) fun σ3 =>
kf_z 1 (some (1, σ3)))
theorem d_Md_single_0 : decode prog_14_method_48_code 0 = .ok (.aload_n 0, 1) := by decide +kernel
theorem d_Md_single_1 : decode prog_14_method_48_code 1 = .ok (.getfield 240, 3) := by decide +kernel
theorem d_Md_single_4 : decode prog_14_method_48_code 4 = .ok (.aload_n 0, 1) := by decide +kernel
theorem d_Md_single_5 : decode prog_14_method_48_code 5 = .ok (.getfield 262, 3) := by decide +kernel
theorem d_Md_single_8 : decode prog_14_method_48_code 8 = .ok (.if_icmp .ne 11, 3) := by decide +kernel
theorem d_Md_single_11 : decode prog_14_method_48_code 11 = .ok (.aload_n 0, 1) := by decide +kernel
theorem d_Md_single_12 : decode prog_14_method_48_code 12 = .ok (.bipush 26, 2) := by decide +kernel
theorem d_Md_single_14 : decode prog_14_method_48_code 14 = .ok (.iload_n 2, 1) := by decide +kernel
theorem d_Md_single_15 : decode prog_14_method_48_code 15 = .ok (.invokevirtual 122, 3) := by decide +kernel
theorem d_Md_single_18 : decode prog_14_method_48_code 18 = .ok (.ireturn, 1) := by decide +kernel
theorem d_Md_single_19 : decode prog_14_method_48_code 19 = .ok (.aload_n 0, 1) := by decide +kernel
theorem d_Md_single_20 : decode prog_14_method_48_code 20 = .ok (.getfield 40, 3) := by decide +kernel
theorem d_Md_single_23 : decode prog_14_method_48_code 23 = .ok (.aload_n 0, 1) := by decide +kernel
theorem d_Md_single_24 : decode prog_14_method_48_code 24 = .ok (.getfield 240, 3) := by decide +kernel
theorem d_Md_single_27 : decode prog_14_method_48_code 27 = .ok (.iload_n 1, 1) := by decide +kernel
theorem d_Md_single_28 : decode prog_14_method_48_code 28 = .ok (.i2b, 1) := by decide +kernel
theorem d_Md_single_29 : decode prog_14_method_48_code 29 = .ok (.bastore, 1) := by decide +kernel
theorem d_Md_single_30 : decode prog_14_method_48_code 30 = .ok (.aload_n 0, 1) := by decide +kernel
theorem d_Md_single_31 : decode prog_14_method_48_code 31 = .ok (.dup, 1) := by decide +kernel
theorem d_Md_single_32 : decode prog_14_method_48_code 32 = .ok (.getfield 240, 3) := by decide +kernel
theorem d_Md_single_35 : decode prog_14_method_48_code 35 = .ok (.iconst 1, 1) := by decide +kernel
theorem d_Md_single_36 : decode prog_14_method_48_code 36 = .ok (.iadd, 1) := by decide +kernel
theorem d_Md_single_37 : decode prog_14_method_48_code 37 = .ok (.putfield 240, 3) := by decide +kernel
theorem d_Md_single_40 : decode prog_14_method_48_code 40 = .ok (.iconst 1, 1) := by decide +kernel
theorem d_Md_single_41 : decode prog_14_method_48_code 41 = .ok (.ireturn, 1) := by decide +kernel
set_option maxRecDepth 100000 in
set_option maxHeartbeats 4000000 in
theorem c_Md_single {l0 : Launch} (hl : l0.stackTraces = false) (n : Nat) (ids : List Nat) {t : Nat} (ht : mm_ok ids t 1 12) (a0 : Int32) (a1 : Int32) (σ : Mm) : kw_C l0 y_Md_single (Cond.code y_Md_single prog_14_method_48_code 3 (some .boolean) :: kw_Ts) rm_Md_single kw_oi ids [] [.ref t, .int a0, .int a1] σ (F_Md_single n t a0 a1 σ) := by
  refine kw_start (L0 := [some (.ref t), some (.int a0), some (.int a1)]) hl (by decide +kernel) (Nat.le_of_ble_eq_true rfl) rfl (fun Γ ad C Ce => ?_)
  unfold F_Md_single
  refine kw_aload_n C d_Md_single_0 rfl ?_
  refine kw_getI C fi_Md_240 (Or.inl rfl) ht d_Md_single_1 ?_
  refine kw_aload_n C d_Md_single_4 rfl ?_
  refine kw_getI C fi_Md_262 (Or.inl rfl) ht d_Md_single_5 ?_
  refine kw_icmp_ne (tgt := 19) C d_Md_single_8 (by decide) ?_ ?_
  · refine kw_aload_n C d_Md_single_19 rfl ?_
    refine kw_getR C fi_Md_40 rfl rfl ht d_Md_single_20 (fun o1 ho1 => ?_)
    refine kw_aload_n C d_Md_single_23 rfl ?_
    refine kw_getI C fi_Md_240 (Or.inl rfl) ht d_Md_single_24 ?_
    refine kw_iload_n C d_Md_single_27 rfl ?_
    refine kw_i2b C d_Md_single_28 ?_
    refine kw_bast C ho1 d_Md_single_29 (fun σ2 => ?_)
    refine kw_aload_n C d_Md_single_30 rfl ?_
    refine kw_dup C d_Md_single_31 rfl ?_
    refine kw_getI C fi_Md_240 (Or.inl rfl) ht d_Md_single_32 ?_
    refine kw_iconst (v := 1) C d_Md_single_35 (by decide) ?_
    refine kw_iadd C d_Md_single_36 ?_
    refine kw_putI C fi_Md_240 rfl ht d_Md_single_37 (fun σ3 => ?_)
    refine kw_iconst (v := 1) C d_Md_single_40 (by decide) ?_
    exact kw_zret C Ce rfl (by simp) (fun _ _ => rfl) (Nat.le_of_ble_eq_true rfl) (Nat.le_of_ble_eq_true rfl) rfl d_Md_single_41
  · refine kw_aload_n C d_Md_single_11 rfl ?_
    refine kw_bipush (v := 26) C d_Md_single_12 (by decide) ?_
    refine kw_iload_n C d_Md_single_14 rfl ?_
    refine kw_callVi (cl' := 0) (sl' := 0) (As := [.int 26, .int a1]) C (c_Md_flaw hl n ids ht 26 a1 σ) mi_Md_122 v_Md_flaw ⟨_, _, rfl⟩ ht ⟨Nat.le_of_ble_eq_true rfl, Nat.le_of_ble_eq_true rfl⟩ (Nat.le_of_ble_eq_true rfl) ⟨Nat.le_of_ble_eq_true rfl, Nat.le_of_ble_eq_true rfl⟩ ⟨rfl, rfl⟩ rfl d_Md_single_15 (fun x4 σ5 => ?_)
    exact kw_zret C Ce rfl (by simp) (fun _ _ => rfl) (Nat.le_of_ble_eq_true rfl) (Nat.le_of_ble_eq_true rfl) rfl d_Md_single_18
/-! Md_readBlock -/
def rm_Md_readBlock : Room := { frames := 6, cells := 0, slots := 0, locals := 149 }
def F_Md_readBlock (n : Nat) (t : Nat) (a0 : Int32) (σ : Mm) : Option (Int32 × Mm) :=
kf_j (α := Unit) (fun x2 σ3 => kf_l (α := Unit) n (fun k4 x5 σ6 =>
kf_let (gJ σ6 (64 * t + 43) : Int64) fun x7 =>
kf_c2 (F_Md_isCode n t 0 (gS σ6 (64 * t + 47)) σ6) fun x8 σ9 =>
if x8 = 0 then (
kf_z 0 (some (0, σ9))) else (
kf_let (gS σ9 (64 * t + 49) : Int32) fun x10 =>
if x10 = 256 then (
kf_z 1 (some (1, σ9))) else (
kf_j (α := Unit) (fun x12 σ13 =>
k4 () σ13) fun k11 =>
kf_j (α := Unit) (fun x15 σ16 =>
kf_z 0 (some (0, σ16))) fun k14 =>
if x10 ≤ 256 then (
kf_c2 (F_Md_placeOf n t x7 σ9) fun x17 σ18 =>
kf_c2 (F_Md_single n t x10 x17 σ18) fun x19 σ20 =>
if x19 = 0 then (
k14 () σ20) else (
k11 () σ20)) else (
kf_c2 (F_Md_placeOf n t x7 σ9) fun x21 σ22 =>
kf_c2 (F_Md_copy n t x10 x21 σ22) fun x23 σ24 =>
if x23 = 0 then (
k14 () σ24) else (
k11 () σ24))))) x2 σ3) fun k1 =>
if a0 = 0 then (
kf_c2 (F_Md_readLengths n t σ) fun x36 σ37 =>
if x36 = 0 then (
kf_z 0 (some (0, σ37))) else (
k1 () σ37)) else (
kf_let (pS σ (64 * t + 47) 288) fun σ25 =>
kf_let (pS σ25 (64 * t + 48) 32) fun σ26 =>
kf_l (α := Int32) n (fun k27 x28 σ29 =>
if 320 ≤ x28 then (
k1 () σ29) else (
Option.bind (gR σ29 (64 * t + 45)) fun o30 =>
kf_j (α := Int32 × Int32) (fun x32 σ33 =>
kf_in x32.1 (mm_kd o30).2.2 <| kf_let (pB σ33 o30 x32.1.toNatClampNeg x32.2) fun σ34 =>
kf_let (x28 + Int32.ofInt 1) fun x35 =>
k27 x35 σ34) fun k31 =>
if 144 ≤ x28 then (
if 256 ≤ x28 then (
if 280 ≤ x28 then (
if 288 ≤ x28 then (
k31 (x28, 5) σ29) else (
k31 (x28, 8) σ29)) else (
k31 (x28, 7) σ29)) else (
k31 (x28, 9) σ29)) else (
k31 (x28, 8) σ29))) 0 σ26)
theorem d_Md_readBlock_0 : decode prog_14_method_47_code 0 = .ok (.iload_n 1, 1) := by decide +kernel
theorem d_Md_readBlock_1 : decode prog_14_method_47_code 1 = .ok (.ifCond .ne 12, 3) := by decide +kernel
theorem d_Md_readBlock_4 : decode prog_14_method_47_code 4 = .ok (.aload_n 0, 1) := by decide +kernel
theorem d_Md_readBlock_5 : decode prog_14_method_47_code 5 = .ok (.invokevirtual 275, 3) := by decide +kernel
theorem d_Md_readBlock_8 : decode prog_14_method_47_code 8 = .ok (.ifCond .ne 88, 3) := by decide +kernel
theorem d_Md_readBlock_11 : decode prog_14_method_47_code 11 = .ok (.iconst 0, 1) := by decide +kernel
theorem d_Md_readBlock_12 : decode prog_14_method_47_code 12 = .ok (.ireturn, 1) := by decide +kernel
theorem d_Md_readBlock_13 : decode prog_14_method_47_code 13 = .ok (.aload_n 0, 1) := by decide +kernel
theorem d_Md_readBlock_14 : decode prog_14_method_47_code 14 = .ok (.sipush 288, 3) := by decide +kernel
theorem d_Md_readBlock_17 : decode prog_14_method_47_code 17 = .ok (.putfield 278, 3) := by decide +kernel
theorem d_Md_readBlock_20 : decode prog_14_method_47_code 20 = .ok (.aload_n 0, 1) := by decide +kernel
theorem d_Md_readBlock_21 : decode prog_14_method_47_code 21 = .ok (.bipush 32, 2) := by decide +kernel
theorem d_Md_readBlock_23 : decode prog_14_method_47_code 23 = .ok (.putfield 281, 3) := by decide +kernel
theorem d_Md_readBlock_26 : decode prog_14_method_47_code 26 = .ok (.iconst 0, 1) := by decide +kernel
theorem d_Md_readBlock_27 : decode prog_14_method_47_code 27 = .ok (.istore_n 2, 1) := by decide +kernel
theorem d_Md_readBlock_28 : decode prog_14_method_47_code 28 = .ok (.iload_n 2, 1) := by decide +kernel
theorem d_Md_readBlock_29 : decode prog_14_method_47_code 29 = .ok (.sipush 320, 3) := by decide +kernel
theorem d_Md_readBlock_32 : decode prog_14_method_47_code 32 = .ok (.if_icmp .ge 64, 3) := by decide +kernel
theorem d_Md_readBlock_35 : decode prog_14_method_47_code 35 = .ok (.aload_n 0, 1) := by decide +kernel
theorem d_Md_readBlock_36 : decode prog_14_method_47_code 36 = .ok (.getfield 58, 3) := by decide +kernel
theorem d_Md_readBlock_39 : decode prog_14_method_47_code 39 = .ok (.iload_n 2, 1) := by decide +kernel
theorem d_Md_readBlock_40 : decode prog_14_method_47_code 40 = .ok (.iload_n 2, 1) := by decide +kernel
theorem d_Md_readBlock_41 : decode prog_14_method_47_code 41 = .ok (.sipush 144, 3) := by decide +kernel
theorem d_Md_readBlock_44 : decode prog_14_method_47_code 44 = .ok (.if_icmp .ge 8, 3) := by decide +kernel
theorem d_Md_readBlock_47 : decode prog_14_method_47_code 47 = .ok (.bipush 8, 2) := by decide +kernel
theorem d_Md_readBlock_49 : decode prog_14_method_47_code 49 = .ok (.goto 40, 3) := by decide +kernel
theorem d_Md_readBlock_52 : decode prog_14_method_47_code 52 = .ok (.iload_n 2, 1) := by decide +kernel
theorem d_Md_readBlock_53 : decode prog_14_method_47_code 53 = .ok (.sipush 256, 3) := by decide +kernel
theorem d_Md_readBlock_56 : decode prog_14_method_47_code 56 = .ok (.if_icmp .ge 8, 3) := by decide +kernel
theorem d_Md_readBlock_59 : decode prog_14_method_47_code 59 = .ok (.bipush 9, 2) := by decide +kernel
theorem d_Md_readBlock_61 : decode prog_14_method_47_code 61 = .ok (.goto 28, 3) := by decide +kernel
theorem d_Md_readBlock_64 : decode prog_14_method_47_code 64 = .ok (.iload_n 2, 1) := by decide +kernel
theorem d_Md_readBlock_65 : decode prog_14_method_47_code 65 = .ok (.sipush 280, 3) := by decide +kernel
theorem d_Md_readBlock_68 : decode prog_14_method_47_code 68 = .ok (.if_icmp .ge 8, 3) := by decide +kernel
theorem d_Md_readBlock_71 : decode prog_14_method_47_code 71 = .ok (.bipush 7, 2) := by decide +kernel
theorem d_Md_readBlock_73 : decode prog_14_method_47_code 73 = .ok (.goto 16, 3) := by decide +kernel
theorem d_Md_readBlock_76 : decode prog_14_method_47_code 76 = .ok (.iload_n 2, 1) := by decide +kernel
theorem d_Md_readBlock_77 : decode prog_14_method_47_code 77 = .ok (.sipush 288, 3) := by decide +kernel
theorem d_Md_readBlock_80 : decode prog_14_method_47_code 80 = .ok (.if_icmp .ge 8, 3) := by decide +kernel
theorem d_Md_readBlock_83 : decode prog_14_method_47_code 83 = .ok (.bipush 8, 2) := by decide +kernel
theorem d_Md_readBlock_85 : decode prog_14_method_47_code 85 = .ok (.goto 4, 3) := by decide +kernel
theorem d_Md_readBlock_88 : decode prog_14_method_47_code 88 = .ok (.iconst 5, 1) := by decide +kernel
theorem d_Md_readBlock_89 : decode prog_14_method_47_code 89 = .ok (.iastore, 1) := by decide +kernel
theorem d_Md_readBlock_90 : decode prog_14_method_47_code 90 = .ok (.iinc 2 1, 3) := by decide +kernel
theorem d_Md_readBlock_93 : decode prog_14_method_47_code 93 = .ok (.goto (-65), 3) := by decide +kernel
theorem d_Md_readBlock_96 : decode prog_14_method_47_code 96 = .ok (.aload_n 0, 1) := by decide +kernel
theorem d_Md_readBlock_97 : decode prog_14_method_47_code 97 = .ok (.getfield 201, 3) := by decide +kernel
theorem d_Md_readBlock_100 : decode prog_14_method_47_code 100 = .ok (.lstore_n 2, 1) := by decide +kernel
theorem d_Md_readBlock_101 : decode prog_14_method_47_code 101 = .ok (.aload_n 0, 1) := by decide +kernel
theorem d_Md_readBlock_102 : decode prog_14_method_47_code 102 = .ok (.iconst 0, 1) := by decide +kernel
theorem d_Md_readBlock_103 : decode prog_14_method_47_code 103 = .ok (.aload_n 0, 1) := by decide +kernel
theorem d_Md_readBlock_104 : decode prog_14_method_47_code 104 = .ok (.getfield 278, 3) := by decide +kernel
theorem d_Md_readBlock_107 : decode prog_14_method_47_code 107 = .ok (.invokevirtual 284, 3) := by decide +kernel
theorem d_Md_readBlock_110 : decode prog_14_method_47_code 110 = .ok (.ifCond .ne 5, 3) := by decide +kernel
theorem d_Md_readBlock_113 : decode prog_14_method_47_code 113 = .ok (.iconst 0, 1) := by decide +kernel
theorem d_Md_readBlock_114 : decode prog_14_method_47_code 114 = .ok (.ireturn, 1) := by decide +kernel
theorem d_Md_readBlock_115 : decode prog_14_method_47_code 115 = .ok (.aload_n 0, 1) := by decide +kernel
theorem d_Md_readBlock_116 : decode prog_14_method_47_code 116 = .ok (.getfield 216, 3) := by decide +kernel
theorem d_Md_readBlock_119 : decode prog_14_method_47_code 119 = .ok (.istore 4, 2) := by decide +kernel
theorem d_Md_readBlock_121 : decode prog_14_method_47_code 121 = .ok (.iload 4, 2) := by decide +kernel
theorem d_Md_readBlock_123 : decode prog_14_method_47_code 123 = .ok (.sipush 256, 3) := by decide +kernel
theorem d_Md_readBlock_126 : decode prog_14_method_47_code 126 = .ok (.if_icmp .ne 5, 3) := by decide +kernel
theorem d_Md_readBlock_129 : decode prog_14_method_47_code 129 = .ok (.iconst 1, 1) := by decide +kernel
theorem d_Md_readBlock_130 : decode prog_14_method_47_code 130 = .ok (.ireturn, 1) := by decide +kernel
theorem d_Md_readBlock_131 : decode prog_14_method_47_code 131 = .ok (.iload 4, 2) := by decide +kernel
theorem d_Md_readBlock_133 : decode prog_14_method_47_code 133 = .ok (.sipush 256, 3) := by decide +kernel
theorem d_Md_readBlock_136 : decode prog_14_method_47_code 136 = .ok (.if_icmp .le 20, 3) := by decide +kernel
theorem d_Md_readBlock_139 : decode prog_14_method_47_code 139 = .ok (.aload_n 0, 1) := by decide +kernel
theorem d_Md_readBlock_140 : decode prog_14_method_47_code 140 = .ok (.iload 4, 2) := by decide +kernel
theorem d_Md_readBlock_142 : decode prog_14_method_47_code 142 = .ok (.aload_n 0, 1) := by decide +kernel
theorem d_Md_readBlock_143 : decode prog_14_method_47_code 143 = .ok (.lload_n 2, 1) := by decide +kernel
theorem d_Md_readBlock_144 : decode prog_14_method_47_code 144 = .ok (.invokevirtual 236, 3) := by decide +kernel
theorem d_Md_readBlock_147 : decode prog_14_method_47_code 147 = .ok (.invokevirtual 287, 3) := by decide +kernel
theorem d_Md_readBlock_150 : decode prog_14_method_47_code 150 = .ok (.ifCond .ne 22, 3) := by decide +kernel
theorem d_Md_readBlock_153 : decode prog_14_method_47_code 153 = .ok (.goto 17, 3) := by decide +kernel
theorem d_Md_readBlock_156 : decode prog_14_method_47_code 156 = .ok (.aload_n 0, 1) := by decide +kernel
theorem d_Md_readBlock_157 : decode prog_14_method_47_code 157 = .ok (.iload 4, 2) := by decide +kernel
theorem d_Md_readBlock_159 : decode prog_14_method_47_code 159 = .ok (.aload_n 0, 1) := by decide +kernel
theorem d_Md_readBlock_160 : decode prog_14_method_47_code 160 = .ok (.lload_n 2, 1) := by decide +kernel
theorem d_Md_readBlock_161 : decode prog_14_method_47_code 161 = .ok (.invokevirtual 236, 3) := by decide +kernel
theorem d_Md_readBlock_164 : decode prog_14_method_47_code 164 = .ok (.invokevirtual 290, 3) := by decide +kernel
theorem d_Md_readBlock_167 : decode prog_14_method_47_code 167 = .ok (.ifCond .ne 5, 3) := by decide +kernel
theorem d_Md_readBlock_170 : decode prog_14_method_47_code 170 = .ok (.iconst 0, 1) := by decide +kernel
theorem d_Md_readBlock_171 : decode prog_14_method_47_code 171 = .ok (.ireturn, 1) := by decide +kernel
theorem d_Md_readBlock_172 : decode prog_14_method_47_code 172 = .ok (.goto (-76), 3) := by decide +kernel
set_option maxRecDepth 100000 in
set_option maxHeartbeats 4000000 in
theorem c_Md_readBlock {l0 : Launch} (hl : l0.stackTraces = false) (n : Nat) (ids : List Nat) {t : Nat} (ht : mm_ok ids t 1 12) (a0 : Int32) (σ : Mm) : kw_C l0 y_Md_readBlock (Cond.code y_Md_readBlock prog_14_method_47_code 5 (some .boolean) :: kw_Ts) rm_Md_readBlock kw_oi ids [] [.ref t, .int a0] σ (F_Md_readBlock n t a0 σ) := by
  refine kw_start (L0 := [some (.ref t), some (.int a0), none, none, none]) hl (by decide +kernel) (Nat.le_of_ble_eq_true rfl) rfl (fun Γ ad C Ce => ?_)
  unfold F_Md_readBlock
  refine kw_iload_n C d_Md_readBlock_0 rfl ?_
  refine kw_j (α := Unit) (pcj := 96) (Lj := fun x5 => [some (.ref t), none, none, none, none]) (stj := fun x5 => []) (fun x2 σ3 => kw_l (α := Unit) (pc := 96) (Lj := fun x5 => [some (.ref t), none, none, none, none]) (stj := fun x5 => []) (fun k4 hk4 x5 σ6 => ?_) n x2 σ3) (fun k1 hk1 => ?_)
  · refine kw_aload_n C d_Md_readBlock_96 rfl ?_
    refine kw_getJ C fi_Md_201 rfl ht d_Md_readBlock_97 ?_
    refine kw_letl (fun x7 => ?_)
    refine kw_lstore_n (L' := [some (.ref t), none, some (.long x7), none, none]) C d_Md_readBlock_100 (by decide) rfl ?_
    refine kw_aload_n C d_Md_readBlock_101 rfl ?_
    refine kw_iconst (v := 0) C d_Md_readBlock_102 (by decide) ?_
    refine kw_aload_n C d_Md_readBlock_103 rfl ?_
    refine kw_getI C fi_Md_278 (Or.inl rfl) ht d_Md_readBlock_104 ?_
    refine kw_callVi (cl' := 0) (sl' := 0) (As := [.int 0, .int (gS σ6 (64 * t + 47))]) C (c_Md_isCode hl n ids ht 0 (gS σ6 (64 * t + 47)) σ6) mi_Md_284 v_Md_isCode ⟨_, _, rfl⟩ ht ⟨Nat.le_of_ble_eq_true rfl, Nat.le_of_ble_eq_true rfl⟩ (Nat.le_of_ble_eq_true rfl) ⟨Nat.le_of_ble_eq_true rfl, Nat.le_of_ble_eq_true rfl⟩ ⟨rfl, rfl⟩ rfl d_Md_readBlock_107 (fun x8 σ9 => ?_)
    refine kw_if_ne (tgt := 115) C d_Md_readBlock_110 (by decide) ?_ ?_
    · refine kw_aload_n C d_Md_readBlock_115 rfl ?_
      refine kw_getI C fi_Md_216 (Or.inl rfl) ht d_Md_readBlock_116 ?_
      refine kw_leti (fun x10 => ?_)
      refine kw_istore (L' := [some (.ref t), none, some (.long x7), none, some (.int x10)]) C d_Md_readBlock_119 (by decide) rfl ?_
      refine kw_iload C d_Md_readBlock_121 rfl ?_
      refine kw_sipush (v := 256) C d_Md_readBlock_123 (by decide) ?_
      refine kw_icmp_ne (tgt := 131) C d_Md_readBlock_126 (by decide) ?_ ?_
      · refine kw_iload C d_Md_readBlock_131 rfl ?_
        refine kw_sipush (v := 256) C d_Md_readBlock_133 (by decide) ?_
        refine kw_j (α := Unit) (pcj := 172) (Lj := fun x12 => [some (.ref t), none, none, none, none]) (stj := fun x12 => []) (fun x12 σ13 => ?_) (fun k11 hk11 => ?_)
        · refine kw_goto (tgt := 96) C d_Md_readBlock_172 (by decide) ?_
          exact kw_wk (hk4 () σ13) ⟨Or.inr rfl, Or.inl rfl, Or.inl rfl, Or.inl rfl, Or.inl rfl, trivial⟩
        · refine kw_j (α := Unit) (pcj := 170) (Lj := fun x15 => [none, none, none, none, none]) (stj := fun x15 => []) (fun x15 σ16 => ?_) (fun k14 hk14 => ?_)
          · refine kw_iconst (v := 0) C d_Md_readBlock_170 (by decide) ?_
            exact kw_zret C Ce rfl (by simp) (fun _ _ => rfl) (Nat.le_of_ble_eq_true rfl) (Nat.le_of_ble_eq_true rfl) rfl d_Md_readBlock_171
          · refine kw_icmp_le (tgt := 156) C d_Md_readBlock_136 (by decide) ?_ ?_
            · refine kw_aload_n C d_Md_readBlock_156 rfl ?_
              refine kw_iload C d_Md_readBlock_157 rfl ?_
              refine kw_aload_n C d_Md_readBlock_159 rfl ?_
              refine kw_lload_n C d_Md_readBlock_160 rfl ?_
              refine kw_callVi (cl' := 0) (sl' := 0) (As := [.long x7]) C (c_Md_placeOf hl n ids ht x7 σ9) mi_Md_236 v_Md_placeOf ⟨_, _, rfl⟩ ht ⟨Nat.le_of_ble_eq_true rfl, Nat.le_of_ble_eq_true rfl⟩ (Nat.le_of_ble_eq_true rfl) ⟨Nat.le_of_ble_eq_true rfl, Nat.le_of_ble_eq_true rfl⟩ ⟨rfl, rfl⟩ rfl d_Md_readBlock_161 (fun x17 σ18 => ?_)
              refine kw_callVi (cl' := 0) (sl' := 0) (As := [.int x10, .int x17]) C (c_Md_single hl n ids ht x10 x17 σ18) mi_Md_290 v_Md_single ⟨_, _, rfl⟩ ht ⟨Nat.le_of_ble_eq_true rfl, Nat.le_of_ble_eq_true rfl⟩ (Nat.le_of_ble_eq_true rfl) ⟨Nat.le_of_ble_eq_true rfl, Nat.le_of_ble_eq_true rfl⟩ ⟨rfl, rfl⟩ rfl d_Md_readBlock_164 (fun x19 σ20 => ?_)
              refine kw_if_ne (tgt := 172) C d_Md_readBlock_167 (by decide) ?_ ?_
              · exact kw_wk (hk11 () σ20) ⟨Or.inr rfl, Or.inl rfl, Or.inl rfl, Or.inl rfl, Or.inl rfl, trivial⟩
              · exact kw_wk (hk14 () σ20) ⟨Or.inl rfl, Or.inl rfl, Or.inl rfl, Or.inl rfl, Or.inl rfl, trivial⟩
            · refine kw_aload_n C d_Md_readBlock_139 rfl ?_
              refine kw_iload C d_Md_readBlock_140 rfl ?_
              refine kw_aload_n C d_Md_readBlock_142 rfl ?_
              refine kw_lload_n C d_Md_readBlock_143 rfl ?_
              refine kw_callVi (cl' := 0) (sl' := 0) (As := [.long x7]) C (c_Md_placeOf hl n ids ht x7 σ9) mi_Md_236 v_Md_placeOf ⟨_, _, rfl⟩ ht ⟨Nat.le_of_ble_eq_true rfl, Nat.le_of_ble_eq_true rfl⟩ (Nat.le_of_ble_eq_true rfl) ⟨Nat.le_of_ble_eq_true rfl, Nat.le_of_ble_eq_true rfl⟩ ⟨rfl, rfl⟩ rfl d_Md_readBlock_144 (fun x21 σ22 => ?_)
              refine kw_callVi (cl' := 0) (sl' := 0) (As := [.int x10, .int x21]) C (c_Md_copy hl n ids ht x10 x21 σ22) mi_Md_287 v_Md_copy ⟨_, _, rfl⟩ ht ⟨Nat.le_of_ble_eq_true rfl, Nat.le_of_ble_eq_true rfl⟩ (Nat.le_of_ble_eq_true rfl) ⟨Nat.le_of_ble_eq_true rfl, Nat.le_of_ble_eq_true rfl⟩ ⟨rfl, rfl⟩ rfl d_Md_readBlock_147 (fun x23 σ24 => ?_)
              refine kw_if_ne (tgt := 172) C d_Md_readBlock_150 (by decide) ?_ ?_
              · exact kw_wk (hk11 () σ24) ⟨Or.inr rfl, Or.inl rfl, Or.inl rfl, Or.inl rfl, Or.inl rfl, trivial⟩
              · refine kw_goto (tgt := 170) C d_Md_readBlock_153 (by decide) ?_
                exact kw_wk (hk14 () σ24) ⟨Or.inl rfl, Or.inl rfl, Or.inl rfl, Or.inl rfl, Or.inl rfl, trivial⟩
      · refine kw_iconst (v := 1) C d_Md_readBlock_129 (by decide) ?_
        exact kw_zret C Ce rfl (by simp) (fun _ _ => rfl) (Nat.le_of_ble_eq_true rfl) (Nat.le_of_ble_eq_true rfl) rfl d_Md_readBlock_130
    · refine kw_iconst (v := 0) C d_Md_readBlock_113 (by decide) ?_
      exact kw_zret C Ce rfl (by simp) (fun _ _ => rfl) (Nat.le_of_ble_eq_true rfl) (Nat.le_of_ble_eq_true rfl) rfl d_Md_readBlock_114
  · refine kw_if_ne (tgt := 13) C d_Md_readBlock_1 (by decide) ?_ ?_
    · refine kw_aload_n C d_Md_readBlock_13 rfl ?_
      refine kw_sipush (v := 288) C d_Md_readBlock_14 (by decide) ?_
      refine kw_putI C fi_Md_278 rfl ht d_Md_readBlock_17 (fun σ25 => ?_)
      refine kw_aload_n C d_Md_readBlock_20 rfl ?_
      refine kw_bipush (v := 32) C d_Md_readBlock_21 (by decide) ?_
      refine kw_putI C fi_Md_281 rfl ht d_Md_readBlock_23 (fun σ26 => ?_)
      refine kw_iconst (v := 0) C d_Md_readBlock_26 (by decide) ?_
      refine kw_istore_n (L' := [some (.ref t), some (.int a0), some (.int 0), none, none]) C d_Md_readBlock_27 (by decide) rfl ?_
      refine kw_wk (kw_l (α := Int32) (pc := 28) (Lj := fun x28 => [some (.ref t), none, some (.int x28), none, none]) (stj := fun x28 => []) (fun k27 hk27 x28 σ29 => ?_) n 0 σ26) ⟨Or.inr rfl, Or.inl rfl, Or.inr rfl, Or.inl rfl, Or.inl rfl, trivial⟩
      refine kw_iload_n C d_Md_readBlock_28 rfl ?_
      refine kw_sipush (v := 320) C d_Md_readBlock_29 (by decide) ?_
      refine kw_icmp_ge (tgt := 96) C d_Md_readBlock_32 (by decide) ?_ ?_
      · exact kw_wk (hk1 () σ29) ⟨Or.inr rfl, Or.inl rfl, Or.inl rfl, Or.inl rfl, Or.inl rfl, trivial⟩
      · refine kw_aload_n C d_Md_readBlock_35 rfl ?_
        refine kw_getR C fi_Md_58 rfl rfl ht d_Md_readBlock_36 (fun o30 ho30 => ?_)
        refine kw_iload_n C d_Md_readBlock_39 rfl ?_
        refine kw_iload_n C d_Md_readBlock_40 rfl ?_
        refine kw_sipush (v := 144) C d_Md_readBlock_41 (by decide) ?_
        refine kw_j (α := Int32 × Int32) (pcj := 89) (Lj := fun x32 => [some (.ref t), none, some (.int x28), none, none]) (stj := fun x32 => [.int x32.2, .int x32.1, .ref o30]) (fun x32 σ33 => ?_) (fun k31 hk31 => ?_)
        · refine kw_iast C ho30 d_Md_readBlock_89 (fun σ34 => ?_)
          refine kw_iincL (L2 := fun x35 => [some (.ref t), none, some (.int x35), none, none]) C d_Md_readBlock_90 (by decide) rfl (fun _ => rfl) (fun x35 => ?_)
          refine kw_goto (tgt := 28) C d_Md_readBlock_93 (by decide) ?_
          exact kw_wk (hk27 x35 σ34) ⟨Or.inr rfl, Or.inl rfl, Or.inr rfl, Or.inl rfl, Or.inl rfl, trivial⟩
        · refine kw_icmp_ge (tgt := 52) C d_Md_readBlock_44 (by decide) ?_ ?_
          · refine kw_iload_n C d_Md_readBlock_52 rfl ?_
            refine kw_sipush (v := 256) C d_Md_readBlock_53 (by decide) ?_
            refine kw_icmp_ge (tgt := 64) C d_Md_readBlock_56 (by decide) ?_ ?_
            · refine kw_iload_n C d_Md_readBlock_64 rfl ?_
              refine kw_sipush (v := 280) C d_Md_readBlock_65 (by decide) ?_
              refine kw_icmp_ge (tgt := 76) C d_Md_readBlock_68 (by decide) ?_ ?_
              · refine kw_iload_n C d_Md_readBlock_76 rfl ?_
                refine kw_sipush (v := 288) C d_Md_readBlock_77 (by decide) ?_
                refine kw_icmp_ge (tgt := 88) C d_Md_readBlock_80 (by decide) ?_ ?_
                · refine kw_iconst (v := 5) C d_Md_readBlock_88 (by decide) ?_
                  exact kw_wk (hk31 (x28, 5) σ29) ⟨Or.inr rfl, Or.inl rfl, Or.inr rfl, Or.inl rfl, Or.inl rfl, trivial⟩
                · refine kw_bipush (v := 8) C d_Md_readBlock_83 (by decide) ?_
                  refine kw_goto (tgt := 89) C d_Md_readBlock_85 (by decide) ?_
                  exact kw_wk (hk31 (x28, 8) σ29) ⟨Or.inr rfl, Or.inl rfl, Or.inr rfl, Or.inl rfl, Or.inl rfl, trivial⟩
              · refine kw_bipush (v := 7) C d_Md_readBlock_71 (by decide) ?_
                refine kw_goto (tgt := 89) C d_Md_readBlock_73 (by decide) ?_
                exact kw_wk (hk31 (x28, 7) σ29) ⟨Or.inr rfl, Or.inl rfl, Or.inr rfl, Or.inl rfl, Or.inl rfl, trivial⟩
            · refine kw_bipush (v := 9) C d_Md_readBlock_59 (by decide) ?_
              refine kw_goto (tgt := 89) C d_Md_readBlock_61 (by decide) ?_
              exact kw_wk (hk31 (x28, 9) σ29) ⟨Or.inr rfl, Or.inl rfl, Or.inr rfl, Or.inl rfl, Or.inl rfl, trivial⟩
          · refine kw_bipush (v := 8) C d_Md_readBlock_47 (by decide) ?_
            refine kw_goto (tgt := 89) C d_Md_readBlock_49 (by decide) ?_
            exact kw_wk (hk31 (x28, 8) σ29) ⟨Or.inr rfl, Or.inl rfl, Or.inr rfl, Or.inl rfl, Or.inl rfl, trivial⟩
    · refine kw_aload_n C d_Md_readBlock_4 rfl ?_
      refine kw_callVi (cl' := 0) (sl' := 0) (As := []) C (c_Md_readLengths hl n ids ht  σ) mi_Md_275 v_Md_readLengths ⟨_, _, rfl⟩ ht ⟨Nat.le_of_ble_eq_true rfl, Nat.le_of_ble_eq_true rfl⟩ (Nat.le_of_ble_eq_true rfl) ⟨Nat.le_of_ble_eq_true rfl, Nat.le_of_ble_eq_true rfl⟩ ⟨rfl, rfl⟩ rfl d_Md_readBlock_5 (fun x36 σ37 => ?_)
      refine kw_if_ne (tgt := 96) C d_Md_readBlock_8 (by decide) ?_ ?_
      · exact kw_wk (hk1 () σ37) ⟨Or.inr rfl, Or.inl rfl, Or.inl rfl, Or.inl rfl, Or.inl rfl, trivial⟩
      · refine kw_iconst (v := 0) C d_Md_readBlock_11 (by decide) ?_
        exact kw_zret C Ce rfl (by simp) (fun _ _ => rfl) (Nat.le_of_ble_eq_true rfl) (Nat.le_of_ble_eq_true rfl) rfl d_Md_readBlock_12
/-! Md_sumOf -/
def rm_Md_sumOf : Room := { frames := 0, cells := 0, slots := 0, locals := 0 }
def F_Md_sumOf (n : Nat) (t : Nat) (a0 : Int32) (σ : Mm) : Option (Int64 × Mm) :=
kf_l (α := Int64 × Int64 × Int32) n (fun k1 x2 σ3 =>
if a0 ≤ x2.2.2 then (
some (((65536 : Int64) * x2.2.1) + x2.1, σ3)) else (
Option.bind (gR σ3 (64 * t + 30)) fun o4 =>
kf_in x2.2.2 (mm_kd o4).2.2 <|
kf_nzl 65521 <|
kf_let ((x2.1 + (((gB σ3 o4 x2.2.2.toNatClampNeg) &&& 255).toInt64)) - (x2.1 + (((gB σ3 o4 x2.2.2.toNatClampNeg) &&& 255).toInt64)) / 65521 * 65521 : Int64) fun x5 =>
kf_nzl 65521 <|
kf_let ((x2.2.1 + x5) - (x2.2.1 + x5) / 65521 * 65521 : Int64) fun x6 =>
kf_let (x2.2.2 + Int32.ofInt 1) fun x7 =>
k1 (x5, x6, x7) σ3)) (1, 0, 0) σ
theorem d_Md_sumOf_0 : decode prog_14_method_45_code 0 = .ok (.lconst 1, 1) := by decide +kernel
theorem d_Md_sumOf_1 : decode prog_14_method_45_code 1 = .ok (.lstore_n 2, 1) := by decide +kernel
theorem d_Md_sumOf_2 : decode prog_14_method_45_code 2 = .ok (.lconst 0, 1) := by decide +kernel
theorem d_Md_sumOf_3 : decode prog_14_method_45_code 3 = .ok (.lstore 4, 2) := by decide +kernel
theorem d_Md_sumOf_5 : decode prog_14_method_45_code 5 = .ok (.iconst 0, 1) := by decide +kernel
theorem d_Md_sumOf_6 : decode prog_14_method_45_code 6 = .ok (.istore 6, 2) := by decide +kernel
theorem d_Md_sumOf_8 : decode prog_14_method_45_code 8 = .ok (.iload 6, 2) := by decide +kernel
theorem d_Md_sumOf_10 : decode prog_14_method_45_code 10 = .ok (.iload_n 1, 1) := by decide +kernel
theorem d_Md_sumOf_11 : decode prog_14_method_45_code 11 = .ok (.if_icmp .ge 38, 3) := by decide +kernel
theorem d_Md_sumOf_14 : decode prog_14_method_45_code 14 = .ok (.lload_n 2, 1) := by decide +kernel
theorem d_Md_sumOf_15 : decode prog_14_method_45_code 15 = .ok (.aload_n 0, 1) := by decide +kernel
theorem d_Md_sumOf_16 : decode prog_14_method_45_code 16 = .ok (.getfield 40, 3) := by decide +kernel
theorem d_Md_sumOf_19 : decode prog_14_method_45_code 19 = .ok (.iload 6, 2) := by decide +kernel
theorem d_Md_sumOf_21 : decode prog_14_method_45_code 21 = .ok (.baload, 1) := by decide +kernel
theorem d_Md_sumOf_22 : decode prog_14_method_45_code 22 = .ok (.sipush 255, 3) := by decide +kernel
theorem d_Md_sumOf_25 : decode prog_14_method_45_code 25 = .ok (.iand, 1) := by decide +kernel
theorem d_Md_sumOf_26 : decode prog_14_method_45_code 26 = .ok (.i2l, 1) := by decide +kernel
theorem d_Md_sumOf_27 : decode prog_14_method_45_code 27 = .ok (.ladd, 1) := by decide +kernel
theorem d_Md_sumOf_28 : decode prog_14_method_45_code 28 = .ok (.ldc2_w 270, 3) := by decide +kernel
theorem d_Md_sumOf_31 : decode prog_14_method_45_code 31 = .ok (.lrem, 1) := by decide +kernel
theorem d_Md_sumOf_32 : decode prog_14_method_45_code 32 = .ok (.lstore_n 2, 1) := by decide +kernel
theorem d_Md_sumOf_33 : decode prog_14_method_45_code 33 = .ok (.lload 4, 2) := by decide +kernel
theorem d_Md_sumOf_35 : decode prog_14_method_45_code 35 = .ok (.lload_n 2, 1) := by decide +kernel
theorem d_Md_sumOf_36 : decode prog_14_method_45_code 36 = .ok (.ladd, 1) := by decide +kernel
theorem d_Md_sumOf_37 : decode prog_14_method_45_code 37 = .ok (.ldc2_w 270, 3) := by decide +kernel
theorem d_Md_sumOf_40 : decode prog_14_method_45_code 40 = .ok (.lrem, 1) := by decide +kernel
theorem d_Md_sumOf_41 : decode prog_14_method_45_code 41 = .ok (.lstore 4, 2) := by decide +kernel
theorem d_Md_sumOf_43 : decode prog_14_method_45_code 43 = .ok (.iinc 6 1, 3) := by decide +kernel
theorem d_Md_sumOf_46 : decode prog_14_method_45_code 46 = .ok (.goto (-38), 3) := by decide +kernel
theorem d_Md_sumOf_49 : decode prog_14_method_45_code 49 = .ok (.ldc2_w 272, 3) := by decide +kernel
theorem d_Md_sumOf_52 : decode prog_14_method_45_code 52 = .ok (.lload 4, 2) := by decide +kernel
theorem d_Md_sumOf_54 : decode prog_14_method_45_code 54 = .ok (.lmul, 1) := by decide +kernel
theorem d_Md_sumOf_55 : decode prog_14_method_45_code 55 = .ok (.lload_n 2, 1) := by decide +kernel
theorem d_Md_sumOf_56 : decode prog_14_method_45_code 56 = .ok (.ladd, 1) := by decide +kernel
theorem d_Md_sumOf_57 : decode prog_14_method_45_code 57 = .ok (.lreturn, 1) := by decide +kernel
set_option maxRecDepth 100000 in
set_option maxHeartbeats 4000000 in
theorem c_Md_sumOf {l0 : Launch} (hl : l0.stackTraces = false) (n : Nat) (ids : List Nat) {t : Nat} (ht : mm_ok ids t 1 12) (a0 : Int32) (σ : Mm) : kw_C l0 y_Md_sumOf (Cond.code y_Md_sumOf prog_14_method_45_code 7 (some .long) :: kw_Ts) rm_Md_sumOf kw_ol ids [] [.ref t, .int a0] σ (F_Md_sumOf n t a0 σ) := by
  refine kw_start (L0 := [some (.ref t), some (.int a0), none, none, none, none, none]) hl (by decide +kernel) (Nat.le_of_ble_eq_true rfl) rfl (fun Γ ad C Ce => ?_)
  unfold F_Md_sumOf
  refine kw_lconst (v := 1) C d_Md_sumOf_0 (by decide) ?_
  refine kw_lstore_n (L' := [some (.ref t), some (.int a0), some (.long 1), none, none, none, none]) C d_Md_sumOf_1 (by decide) rfl ?_
  refine kw_lconst (v := 0) C d_Md_sumOf_2 (by decide) ?_
  refine kw_lstore (L' := [some (.ref t), some (.int a0), some (.long 1), none, some (.long 0), none, none]) C d_Md_sumOf_3 (by decide) rfl ?_
  refine kw_iconst (v := 0) C d_Md_sumOf_5 (by decide) ?_
  refine kw_istore (L' := [some (.ref t), some (.int a0), some (.long 1), none, some (.long 0), none, some (.int 0)]) C d_Md_sumOf_6 (by decide) rfl ?_
  refine kw_wk (kw_l (α := Int64 × Int64 × Int32) (pc := 8) (Lj := fun x2 => [some (.ref t), some (.int a0), some (.long x2.1), none, some (.long x2.2.1), none, some (.int x2.2.2)]) (stj := fun x2 => []) (fun k1 hk1 x2 σ3 => ?_) n (1, 0, 0) σ) ⟨Or.inr rfl, Or.inr rfl, Or.inr rfl, Or.inl rfl, Or.inr rfl, Or.inl rfl, Or.inr rfl, trivial⟩
  refine kw_iload C d_Md_sumOf_8 rfl ?_
  refine kw_iload_n C d_Md_sumOf_10 rfl ?_
  refine kw_icmp_ge (tgt := 49) C d_Md_sumOf_11 (by decide) ?_ ?_
  · refine kw_ldc2 (v := 65536) C d_Md_sumOf_49 k_Md_272 ?_
    refine kw_lload C d_Md_sumOf_52 rfl ?_
    refine kw_lmul C d_Md_sumOf_54 ?_
    refine kw_lload_n C d_Md_sumOf_55 rfl ?_
    refine kw_ladd C d_Md_sumOf_56 ?_
    exact kw_lret C Ce rfl (by simp) (fun _ _ => rfl) (Nat.le_of_ble_eq_true rfl) (Nat.le_of_ble_eq_true rfl) rfl d_Md_sumOf_57
  · refine kw_lload_n C d_Md_sumOf_14 rfl ?_
    refine kw_aload_n C d_Md_sumOf_15 rfl ?_
    refine kw_getR C fi_Md_40 rfl rfl ht d_Md_sumOf_16 (fun o4 ho4 => ?_)
    refine kw_iload C d_Md_sumOf_19 rfl ?_
    refine kw_bald C ho4 d_Md_sumOf_21 ?_
    refine kw_sipush (v := 255) C d_Md_sumOf_22 (by decide) ?_
    refine kw_iand C d_Md_sumOf_25 ?_
    refine kw_i2l C d_Md_sumOf_26 ?_
    refine kw_ladd C d_Md_sumOf_27 ?_
    refine kw_ldc2 (v := 65521) C d_Md_sumOf_28 k_Md_270 ?_
    refine kw_lrem C d_Md_sumOf_31 ?_
    refine kw_letl (fun x5 => ?_)
    refine kw_lstore_n (L' := [some (.ref t), some (.int a0), some (.long x5), none, some (.long x2.2.1), none, some (.int x2.2.2)]) C d_Md_sumOf_32 (by decide) rfl ?_
    refine kw_lload C d_Md_sumOf_33 rfl ?_
    refine kw_lload_n C d_Md_sumOf_35 rfl ?_
    refine kw_ladd C d_Md_sumOf_36 ?_
    refine kw_ldc2 (v := 65521) C d_Md_sumOf_37 k_Md_270 ?_
    refine kw_lrem C d_Md_sumOf_40 ?_
    refine kw_letl (fun x6 => ?_)
    refine kw_lstore (L' := [some (.ref t), some (.int a0), some (.long x5), none, some (.long x6), none, some (.int x2.2.2)]) C d_Md_sumOf_41 (by decide) rfl ?_
    refine kw_iincL (L2 := fun x7 => [some (.ref t), some (.int a0), some (.long x5), none, some (.long x6), none, some (.int x7)]) C d_Md_sumOf_43 (by decide) rfl (fun _ => rfl) (fun x7 => ?_)
    refine kw_goto (tgt := 8) C d_Md_sumOf_46 (by decide) ?_
    exact kw_wk (hk1 (x5, x6, x7) σ3) ⟨Or.inr rfl, Or.inr rfl, Or.inr rfl, Or.inl rfl, Or.inr rfl, Or.inl rfl, Or.inr rfl, trivial⟩
/-! Md_readSum -/
def rm_Md_readSum : Room := { frames := 2, cells := 0, slots := 0, locals := 43 }
def F_Md_readSum (n : Nat) (t : Nat) (σ : Mm) : Option (Int32 × Mm) :=
Option.bind (F_Md_align n t σ) fun σ1 =>
if (gS σ1 (64 * t + 32)) ≤ (gS σ1 (64 * t + 31)) then (
kf_c2 (F_Md_hasBits n t 32 σ1) fun x2 σ3 =>
if x2 = 0 then (
kf_z 0 (some (0, σ3))) else (
kf_c2 (F_Md_placeOf n t (gJ σ3 (64 * t + 43)) σ3) fun x4 σ5 =>
kf_l (α := Int64 × Int32) n (fun k6 x7 σ8 =>
if 4 ≤ x7.2 then (
kf_c2 (F_Md_sumOf n t (gS σ8 (64 * t + 31)) σ8) fun x9 σ10 =>
if (lg_cmp x7.1 x9) = 0 then (
kf_j (α := Int32) (fun x12 σ13 =>
kf_z x12 (some (x12, σ13))) fun k11 =>
kf_j (α := Unit) (fun x15 σ16 =>
k11 1 σ16) fun k14 =>
if (lg_cmp (gJ σ10 (64 * t + 43)) ((8 : Int64) * ((gS σ10 (64 * t + 28)).toInt64))) = 0 then (
k14 () σ10) else (
kf_c2 (F_Md_placeOf n t (gJ σ10 (64 * t + 43)) σ10) fun x17 σ18 =>
kf_c2 (F_Md_flaw n t 29 x17 σ18) fun x19 σ20 =>
if x19 = 0 then (
k11 0 σ20) else (
k14 () σ20))) else (
kf_c2 (F_Md_flaw n t 28 x4 σ10) fun x21 σ22 =>
kf_z x21 (some (x21, σ22)))) else (
kf_c2 (F_Md_bits n t 8 σ8) fun x23 σ24 =>
kf_let (((256 : Int64) * x7.1) + x23.toInt64 : Int64) fun x25 =>
kf_let (x7.2 + Int32.ofInt 1) fun x26 =>
k6 (x25, x26) σ24)) (0, 0) σ5)) else (
kf_c2 (F_Md_placeOf n t (gJ σ1 (64 * t + 43)) σ1) fun x27 σ28 =>
kf_c2 (F_Md_flaw n t 27 x27 σ28) fun x29 σ30 =>
kf_z x29 (some (x29, σ30)))
theorem d_Md_readSum_0 : decode prog_14_method_44_code 0 = .ok (.aload_n 0, 1) := by decide +kernel
theorem d_Md_readSum_1 : decode prog_14_method_44_code 1 = .ok (.invokevirtual 259, 3) := by decide +kernel
theorem d_Md_readSum_4 : decode prog_14_method_44_code 4 = .ok (.aload_n 0, 1) := by decide +kernel
theorem d_Md_readSum_5 : decode prog_14_method_44_code 5 = .ok (.getfield 240, 3) := by decide +kernel
theorem d_Md_readSum_8 : decode prog_14_method_44_code 8 = .ok (.aload_n 0, 1) := by decide +kernel
theorem d_Md_readSum_9 : decode prog_14_method_44_code 9 = .ok (.getfield 262, 3) := by decide +kernel
theorem d_Md_readSum_12 : decode prog_14_method_44_code 12 = .ok (.if_icmp .ge 18, 3) := by decide +kernel
theorem d_Md_readSum_15 : decode prog_14_method_44_code 15 = .ok (.aload_n 0, 1) := by decide +kernel
theorem d_Md_readSum_16 : decode prog_14_method_44_code 16 = .ok (.bipush 27, 2) := by decide +kernel
theorem d_Md_readSum_18 : decode prog_14_method_44_code 18 = .ok (.aload_n 0, 1) := by decide +kernel
theorem d_Md_readSum_19 : decode prog_14_method_44_code 19 = .ok (.aload_n 0, 1) := by decide +kernel
theorem d_Md_readSum_20 : decode prog_14_method_44_code 20 = .ok (.getfield 201, 3) := by decide +kernel
theorem d_Md_readSum_23 : decode prog_14_method_44_code 23 = .ok (.invokevirtual 236, 3) := by decide +kernel
theorem d_Md_readSum_26 : decode prog_14_method_44_code 26 = .ok (.invokevirtual 122, 3) := by decide +kernel
theorem d_Md_readSum_29 : decode prog_14_method_44_code 29 = .ok (.ireturn, 1) := by decide +kernel
theorem d_Md_readSum_30 : decode prog_14_method_44_code 30 = .ok (.aload_n 0, 1) := by decide +kernel
theorem d_Md_readSum_31 : decode prog_14_method_44_code 31 = .ok (.bipush 32, 2) := by decide +kernel
theorem d_Md_readSum_33 : decode prog_14_method_44_code 33 = .ok (.invokevirtual 223, 3) := by decide +kernel
theorem d_Md_readSum_36 : decode prog_14_method_44_code 36 = .ok (.ifCond .ne 5, 3) := by decide +kernel
theorem d_Md_readSum_39 : decode prog_14_method_44_code 39 = .ok (.iconst 0, 1) := by decide +kernel
theorem d_Md_readSum_40 : decode prog_14_method_44_code 40 = .ok (.ireturn, 1) := by decide +kernel
theorem d_Md_readSum_41 : decode prog_14_method_44_code 41 = .ok (.aload_n 0, 1) := by decide +kernel
theorem d_Md_readSum_42 : decode prog_14_method_44_code 42 = .ok (.aload_n 0, 1) := by decide +kernel
theorem d_Md_readSum_43 : decode prog_14_method_44_code 43 = .ok (.getfield 201, 3) := by decide +kernel
theorem d_Md_readSum_46 : decode prog_14_method_44_code 46 = .ok (.invokevirtual 236, 3) := by decide +kernel
theorem d_Md_readSum_49 : decode prog_14_method_44_code 49 = .ok (.istore_n 1, 1) := by decide +kernel
theorem d_Md_readSum_50 : decode prog_14_method_44_code 50 = .ok (.lconst 0, 1) := by decide +kernel
theorem d_Md_readSum_51 : decode prog_14_method_44_code 51 = .ok (.lstore_n 2, 1) := by decide +kernel
theorem d_Md_readSum_52 : decode prog_14_method_44_code 52 = .ok (.iconst 0, 1) := by decide +kernel
theorem d_Md_readSum_53 : decode prog_14_method_44_code 53 = .ok (.istore 4, 2) := by decide +kernel
theorem d_Md_readSum_55 : decode prog_14_method_44_code 55 = .ok (.iload 4, 2) := by decide +kernel
theorem d_Md_readSum_57 : decode prog_14_method_44_code 57 = .ok (.iconst 4, 1) := by decide +kernel
theorem d_Md_readSum_58 : decode prog_14_method_44_code 58 = .ok (.if_icmp .ge 23, 3) := by decide +kernel
theorem d_Md_readSum_61 : decode prog_14_method_44_code 61 = .ok (.ldc2_w 265, 3) := by decide +kernel
theorem d_Md_readSum_64 : decode prog_14_method_44_code 64 = .ok (.lload_n 2, 1) := by decide +kernel
theorem d_Md_readSum_65 : decode prog_14_method_44_code 65 = .ok (.lmul, 1) := by decide +kernel
theorem d_Md_readSum_66 : decode prog_14_method_44_code 66 = .ok (.aload_n 0, 1) := by decide +kernel
theorem d_Md_readSum_67 : decode prog_14_method_44_code 67 = .ok (.bipush 8, 2) := by decide +kernel
theorem d_Md_readSum_69 : decode prog_14_method_44_code 69 = .ok (.invokevirtual 226, 3) := by decide +kernel
theorem d_Md_readSum_72 : decode prog_14_method_44_code 72 = .ok (.i2l, 1) := by decide +kernel
theorem d_Md_readSum_73 : decode prog_14_method_44_code 73 = .ok (.ladd, 1) := by decide +kernel
theorem d_Md_readSum_74 : decode prog_14_method_44_code 74 = .ok (.lstore_n 2, 1) := by decide +kernel
theorem d_Md_readSum_75 : decode prog_14_method_44_code 75 = .ok (.iinc 4 1, 3) := by decide +kernel
theorem d_Md_readSum_78 : decode prog_14_method_44_code 78 = .ok (.goto (-23), 3) := by decide +kernel
theorem d_Md_readSum_81 : decode prog_14_method_44_code 81 = .ok (.lload_n 2, 1) := by decide +kernel
theorem d_Md_readSum_82 : decode prog_14_method_44_code 82 = .ok (.aload_n 0, 1) := by decide +kernel
theorem d_Md_readSum_83 : decode prog_14_method_44_code 83 = .ok (.aload_n 0, 1) := by decide +kernel
theorem d_Md_readSum_84 : decode prog_14_method_44_code 84 = .ok (.getfield 240, 3) := by decide +kernel
theorem d_Md_readSum_87 : decode prog_14_method_44_code 87 = .ok (.invokevirtual 267, 3) := by decide +kernel
theorem d_Md_readSum_90 : decode prog_14_method_44_code 90 = .ok (.lcmp, 1) := by decide +kernel
theorem d_Md_readSum_91 : decode prog_14_method_44_code 91 = .ok (.ifCond .eq 11, 3) := by decide +kernel
theorem d_Md_readSum_94 : decode prog_14_method_44_code 94 = .ok (.aload_n 0, 1) := by decide +kernel
theorem d_Md_readSum_95 : decode prog_14_method_44_code 95 = .ok (.bipush 28, 2) := by decide +kernel
theorem d_Md_readSum_97 : decode prog_14_method_44_code 97 = .ok (.iload_n 1, 1) := by decide +kernel
theorem d_Md_readSum_98 : decode prog_14_method_44_code 98 = .ok (.invokevirtual 122, 3) := by decide +kernel
theorem d_Md_readSum_101 : decode prog_14_method_44_code 101 = .ok (.ireturn, 1) := by decide +kernel
theorem d_Md_readSum_102 : decode prog_14_method_44_code 102 = .ok (.aload_n 0, 1) := by decide +kernel
theorem d_Md_readSum_103 : decode prog_14_method_44_code 103 = .ok (.getfield 201, 3) := by decide +kernel
theorem d_Md_readSum_106 : decode prog_14_method_44_code 106 = .ok (.ldc2_w 199, 3) := by decide +kernel
theorem d_Md_readSum_109 : decode prog_14_method_44_code 109 = .ok (.aload_n 0, 1) := by decide +kernel
theorem d_Md_readSum_110 : decode prog_14_method_44_code 110 = .ok (.getfield 142, 3) := by decide +kernel
theorem d_Md_readSum_113 : decode prog_14_method_44_code 113 = .ok (.i2l, 1) := by decide +kernel
theorem d_Md_readSum_114 : decode prog_14_method_44_code 114 = .ok (.lmul, 1) := by decide +kernel
theorem d_Md_readSum_115 : decode prog_14_method_44_code 115 = .ok (.lcmp, 1) := by decide +kernel
theorem d_Md_readSum_116 : decode prog_14_method_44_code 116 = .ok (.ifCond .eq 20, 3) := by decide +kernel
theorem d_Md_readSum_119 : decode prog_14_method_44_code 119 = .ok (.aload_n 0, 1) := by decide +kernel
theorem d_Md_readSum_120 : decode prog_14_method_44_code 120 = .ok (.bipush 29, 2) := by decide +kernel
theorem d_Md_readSum_122 : decode prog_14_method_44_code 122 = .ok (.aload_n 0, 1) := by decide +kernel
theorem d_Md_readSum_123 : decode prog_14_method_44_code 123 = .ok (.aload_n 0, 1) := by decide +kernel
theorem d_Md_readSum_124 : decode prog_14_method_44_code 124 = .ok (.getfield 201, 3) := by decide +kernel
theorem d_Md_readSum_127 : decode prog_14_method_44_code 127 = .ok (.invokevirtual 236, 3) := by decide +kernel
theorem d_Md_readSum_130 : decode prog_14_method_44_code 130 = .ok (.invokevirtual 122, 3) := by decide +kernel
theorem d_Md_readSum_133 : decode prog_14_method_44_code 133 = .ok (.ifCond .eq 7, 3) := by decide +kernel
theorem d_Md_readSum_136 : decode prog_14_method_44_code 136 = .ok (.iconst 1, 1) := by decide +kernel
theorem d_Md_readSum_137 : decode prog_14_method_44_code 137 = .ok (.goto 4, 3) := by decide +kernel
theorem d_Md_readSum_140 : decode prog_14_method_44_code 140 = .ok (.iconst 0, 1) := by decide +kernel
theorem d_Md_readSum_141 : decode prog_14_method_44_code 141 = .ok (.ireturn, 1) := by decide +kernel
set_option maxRecDepth 100000 in
set_option maxHeartbeats 4000000 in
theorem c_Md_readSum {l0 : Launch} (hl : l0.stackTraces = false) (n : Nat) (ids : List Nat) {t : Nat} (ht : mm_ok ids t 1 12)  (σ : Mm) : kw_C l0 y_Md_readSum (Cond.code y_Md_readSum prog_14_method_44_code 5 (some .boolean) :: kw_Ts) rm_Md_readSum kw_oi ids [] [.ref t] σ (F_Md_readSum n t σ) := by
  refine kw_start (L0 := [some (.ref t), none, none, none, none]) hl (by decide +kernel) (Nat.le_of_ble_eq_true rfl) rfl (fun Γ ad C Ce => ?_)
  unfold F_Md_readSum
  refine kw_aload_n C d_Md_readSum_0 rfl ?_
  refine kw_callVv (cl' := 0) (sl' := 0) (As := []) C (c_Md_align hl n ids ht  σ) mi_Md_259 v_Md_align ⟨_, _, rfl⟩ ht ⟨Nat.le_of_ble_eq_true rfl, Nat.le_of_ble_eq_true rfl⟩ (Nat.le_of_ble_eq_true rfl) ⟨Nat.le_of_ble_eq_true rfl, Nat.le_of_ble_eq_true rfl⟩ ⟨rfl, rfl⟩ rfl d_Md_readSum_1 (fun σ1 => ?_)
  refine kw_aload_n C d_Md_readSum_4 rfl ?_
  refine kw_getI C fi_Md_240 (Or.inl rfl) ht d_Md_readSum_5 ?_
  refine kw_aload_n C d_Md_readSum_8 rfl ?_
  refine kw_getI C fi_Md_262 (Or.inl rfl) ht d_Md_readSum_9 ?_
  refine kw_icmp_ge (tgt := 30) C d_Md_readSum_12 (by decide) ?_ ?_
  · refine kw_aload_n C d_Md_readSum_30 rfl ?_
    refine kw_bipush (v := 32) C d_Md_readSum_31 (by decide) ?_
    refine kw_callVi (cl' := 0) (sl' := 0) (As := [.int 32]) C (c_Md_hasBits hl n ids ht 32 σ1) mi_Md_223 v_Md_hasBits ⟨_, _, rfl⟩ ht ⟨Nat.le_of_ble_eq_true rfl, Nat.le_of_ble_eq_true rfl⟩ (Nat.le_of_ble_eq_true rfl) ⟨Nat.le_of_ble_eq_true rfl, Nat.le_of_ble_eq_true rfl⟩ ⟨rfl, rfl⟩ rfl d_Md_readSum_33 (fun x2 σ3 => ?_)
    refine kw_if_ne (tgt := 41) C d_Md_readSum_36 (by decide) ?_ ?_
    · refine kw_aload_n C d_Md_readSum_41 rfl ?_
      refine kw_aload_n C d_Md_readSum_42 rfl ?_
      refine kw_getJ C fi_Md_201 rfl ht d_Md_readSum_43 ?_
      refine kw_callVi (cl' := 0) (sl' := 0) (As := [.long (gJ σ3 (64 * t + 43))]) C (c_Md_placeOf hl n ids ht (gJ σ3 (64 * t + 43)) σ3) mi_Md_236 v_Md_placeOf ⟨_, _, rfl⟩ ht ⟨Nat.le_of_ble_eq_true rfl, Nat.le_of_ble_eq_true rfl⟩ (Nat.le_of_ble_eq_true rfl) ⟨Nat.le_of_ble_eq_true rfl, Nat.le_of_ble_eq_true rfl⟩ ⟨rfl, rfl⟩ rfl d_Md_readSum_46 (fun x4 σ5 => ?_)
      refine kw_istore_n (L' := [some (.ref t), some (.int x4), none, none, none]) C d_Md_readSum_49 (by decide) rfl ?_
      refine kw_lconst (v := 0) C d_Md_readSum_50 (by decide) ?_
      refine kw_lstore_n (L' := [some (.ref t), some (.int x4), some (.long 0), none, none]) C d_Md_readSum_51 (by decide) rfl ?_
      refine kw_iconst (v := 0) C d_Md_readSum_52 (by decide) ?_
      refine kw_istore (L' := [some (.ref t), some (.int x4), some (.long 0), none, some (.int 0)]) C d_Md_readSum_53 (by decide) rfl ?_
      refine kw_wk (kw_l (α := Int64 × Int32) (pc := 55) (Lj := fun x7 => [some (.ref t), some (.int x4), some (.long x7.1), none, some (.int x7.2)]) (stj := fun x7 => []) (fun k6 hk6 x7 σ8 => ?_) n (0, 0) σ5) ⟨Or.inr rfl, Or.inr rfl, Or.inr rfl, Or.inl rfl, Or.inr rfl, trivial⟩
      refine kw_iload C d_Md_readSum_55 rfl ?_
      refine kw_iconst (v := 4) C d_Md_readSum_57 (by decide) ?_
      refine kw_icmp_ge (tgt := 81) C d_Md_readSum_58 (by decide) ?_ ?_
      · refine kw_lload_n C d_Md_readSum_81 rfl ?_
        refine kw_aload_n C d_Md_readSum_82 rfl ?_
        refine kw_aload_n C d_Md_readSum_83 rfl ?_
        refine kw_getI C fi_Md_240 (Or.inl rfl) ht d_Md_readSum_84 ?_
        refine kw_callVl (cl' := 0) (sl' := 0) (As := [.int (gS σ8 (64 * t + 31))]) C (c_Md_sumOf hl n ids ht (gS σ8 (64 * t + 31)) σ8) mi_Md_267 v_Md_sumOf ⟨_, _, rfl⟩ ht ⟨Nat.le_of_ble_eq_true rfl, Nat.le_of_ble_eq_true rfl⟩ (Nat.le_of_ble_eq_true rfl) ⟨Nat.le_of_ble_eq_true rfl, Nat.le_of_ble_eq_true rfl⟩ ⟨rfl, rfl⟩ rfl d_Md_readSum_87 (fun x9 σ10 => ?_)
        refine kw_lcmp C d_Md_readSum_90 ?_
        refine kw_if_eq (tgt := 102) C d_Md_readSum_91 (by decide) ?_ ?_
        · refine kw_aload_n C d_Md_readSum_102 rfl ?_
          refine kw_getJ C fi_Md_201 rfl ht d_Md_readSum_103 ?_
          refine kw_ldc2 (v := 8) C d_Md_readSum_106 k_Md_199 ?_
          refine kw_aload_n C d_Md_readSum_109 rfl ?_
          refine kw_getI C fi_Md_142 (Or.inl rfl) ht d_Md_readSum_110 ?_
          refine kw_i2l C d_Md_readSum_113 ?_
          refine kw_lmul C d_Md_readSum_114 ?_
          refine kw_lcmp C d_Md_readSum_115 ?_
          refine kw_j (α := Int32) (pcj := 141) (Lj := fun x12 => [none, none, none, none, none]) (stj := fun x12 => [.int x12]) (fun x12 σ13 => ?_) (fun k11 hk11 => ?_)
          · exact kw_zret C Ce rfl (by simp) (fun _ _ => rfl) (Nat.le_of_ble_eq_true rfl) (Nat.le_of_ble_eq_true rfl) rfl d_Md_readSum_141
          · refine kw_j (α := Unit) (pcj := 136) (Lj := fun x15 => [none, none, none, none, none]) (stj := fun x15 => []) (fun x15 σ16 => ?_) (fun k14 hk14 => ?_)
            · refine kw_iconst (v := 1) C d_Md_readSum_136 (by decide) ?_
              refine kw_goto (tgt := 141) C d_Md_readSum_137 (by decide) ?_
              exact kw_wk (hk11 1 σ16) ⟨Or.inl rfl, Or.inl rfl, Or.inl rfl, Or.inl rfl, Or.inl rfl, trivial⟩
            · refine kw_if_eq (tgt := 136) C d_Md_readSum_116 (by decide) ?_ ?_
              · exact kw_wk (hk14 () σ10) ⟨Or.inl rfl, Or.inl rfl, Or.inl rfl, Or.inl rfl, Or.inl rfl, trivial⟩
              · refine kw_aload_n C d_Md_readSum_119 rfl ?_
                refine kw_bipush (v := 29) C d_Md_readSum_120 (by decide) ?_
                refine kw_aload_n C d_Md_readSum_122 rfl ?_
                refine kw_aload_n C d_Md_readSum_123 rfl ?_
                refine kw_getJ C fi_Md_201 rfl ht d_Md_readSum_124 ?_
                refine kw_callVi (cl' := 0) (sl' := 0) (As := [.long (gJ σ10 (64 * t + 43))]) C (c_Md_placeOf hl n ids ht (gJ σ10 (64 * t + 43)) σ10) mi_Md_236 v_Md_placeOf ⟨_, _, rfl⟩ ht ⟨Nat.le_of_ble_eq_true rfl, Nat.le_of_ble_eq_true rfl⟩ (Nat.le_of_ble_eq_true rfl) ⟨Nat.le_of_ble_eq_true rfl, Nat.le_of_ble_eq_true rfl⟩ ⟨rfl, rfl⟩ rfl d_Md_readSum_127 (fun x17 σ18 => ?_)
                refine kw_callVi (cl' := 0) (sl' := 0) (As := [.int 29, .int x17]) C (c_Md_flaw hl n ids ht 29 x17 σ18) mi_Md_122 v_Md_flaw ⟨_, _, rfl⟩ ht ⟨Nat.le_of_ble_eq_true rfl, Nat.le_of_ble_eq_true rfl⟩ (Nat.le_of_ble_eq_true rfl) ⟨Nat.le_of_ble_eq_true rfl, Nat.le_of_ble_eq_true rfl⟩ ⟨rfl, rfl⟩ rfl d_Md_readSum_130 (fun x19 σ20 => ?_)
                refine kw_if_eq (tgt := 140) C d_Md_readSum_133 (by decide) ?_ ?_
                · refine kw_iconst (v := 0) C d_Md_readSum_140 (by decide) ?_
                  exact kw_wk (hk11 0 σ20) ⟨Or.inl rfl, Or.inl rfl, Or.inl rfl, Or.inl rfl, Or.inl rfl, trivial⟩
                · exact kw_wk (hk14 () σ20) ⟨Or.inl rfl, Or.inl rfl, Or.inl rfl, Or.inl rfl, Or.inl rfl, trivial⟩
        · refine kw_aload_n C d_Md_readSum_94 rfl ?_
          refine kw_bipush (v := 28) C d_Md_readSum_95 (by decide) ?_
          refine kw_iload_n C d_Md_readSum_97 rfl ?_
          refine kw_callVi (cl' := 0) (sl' := 0) (As := [.int 28, .int x4]) C (c_Md_flaw hl n ids ht 28 x4 σ10) mi_Md_122 v_Md_flaw ⟨_, _, rfl⟩ ht ⟨Nat.le_of_ble_eq_true rfl, Nat.le_of_ble_eq_true rfl⟩ (Nat.le_of_ble_eq_true rfl) ⟨Nat.le_of_ble_eq_true rfl, Nat.le_of_ble_eq_true rfl⟩ ⟨rfl, rfl⟩ rfl d_Md_readSum_98 (fun x21 σ22 => ?_)
          exact kw_zret C Ce rfl (by simp) (fun _ _ => rfl) (Nat.le_of_ble_eq_true rfl) (Nat.le_of_ble_eq_true rfl) rfl d_Md_readSum_101
      · refine kw_ldc2 (v := 256) C d_Md_readSum_61 k_Md_265 ?_
        refine kw_lload_n C d_Md_readSum_64 rfl ?_
        refine kw_lmul C d_Md_readSum_65 ?_
        refine kw_aload_n C d_Md_readSum_66 rfl ?_
        refine kw_bipush (v := 8) C d_Md_readSum_67 (by decide) ?_
        refine kw_callVi (cl' := 0) (sl' := 0) (As := [.int 8]) C (c_Md_bits hl n ids ht 8 σ8) mi_Md_226 v_Md_bits ⟨_, _, rfl⟩ ht ⟨Nat.le_of_ble_eq_true rfl, Nat.le_of_ble_eq_true rfl⟩ (Nat.le_of_ble_eq_true rfl) ⟨Nat.le_of_ble_eq_true rfl, Nat.le_of_ble_eq_true rfl⟩ ⟨rfl, rfl⟩ rfl d_Md_readSum_69 (fun x23 σ24 => ?_)
        refine kw_i2l C d_Md_readSum_72 ?_
        refine kw_ladd C d_Md_readSum_73 ?_
        refine kw_letl (fun x25 => ?_)
        refine kw_lstore_n (L' := [some (.ref t), some (.int x4), some (.long x25), none, some (.int x7.2)]) C d_Md_readSum_74 (by decide) rfl ?_
        refine kw_iincL (L2 := fun x26 => [some (.ref t), some (.int x4), some (.long x25), none, some (.int x26)]) C d_Md_readSum_75 (by decide) rfl (fun _ => rfl) (fun x26 => ?_)
        refine kw_goto (tgt := 55) C d_Md_readSum_78 (by decide) ?_
        exact kw_wk (hk6 (x25, x26) σ24) ⟨Or.inr rfl, Or.inr rfl, Or.inr rfl, Or.inl rfl, Or.inr rfl, trivial⟩
    · refine kw_iconst (v := 0) C d_Md_readSum_39 (by decide) ?_
      exact kw_zret C Ce rfl (by simp) (fun _ _ => rfl) (Nat.le_of_ble_eq_true rfl) (Nat.le_of_ble_eq_true rfl) rfl d_Md_readSum_40
  · refine kw_aload_n C d_Md_readSum_15 rfl ?_
    refine kw_bipush (v := 27) C d_Md_readSum_16 (by decide) ?_
    refine kw_aload_n C d_Md_readSum_18 rfl ?_
    refine kw_aload_n C d_Md_readSum_19 rfl ?_
    refine kw_getJ C fi_Md_201 rfl ht d_Md_readSum_20 ?_
    refine kw_callVi (cl' := 0) (sl' := 0) (As := [.long (gJ σ1 (64 * t + 43))]) C (c_Md_placeOf hl n ids ht (gJ σ1 (64 * t + 43)) σ1) mi_Md_236 v_Md_placeOf ⟨_, _, rfl⟩ ht ⟨Nat.le_of_ble_eq_true rfl, Nat.le_of_ble_eq_true rfl⟩ (Nat.le_of_ble_eq_true rfl) ⟨Nat.le_of_ble_eq_true rfl, Nat.le_of_ble_eq_true rfl⟩ ⟨rfl, rfl⟩ rfl d_Md_readSum_23 (fun x27 σ28 => ?_)
    refine kw_callVi (cl' := 0) (sl' := 0) (As := [.int 27, .int x27]) C (c_Md_flaw hl n ids ht 27 x27 σ28) mi_Md_122 v_Md_flaw ⟨_, _, rfl⟩ ht ⟨Nat.le_of_ble_eq_true rfl, Nat.le_of_ble_eq_true rfl⟩ (Nat.le_of_ble_eq_true rfl) ⟨Nat.le_of_ble_eq_true rfl, Nat.le_of_ble_eq_true rfl⟩ ⟨rfl, rfl⟩ rfl d_Md_readSum_26 (fun x29 σ30 => ?_)
    exact kw_zret C Ce rfl (by simp) (fun _ _ => rfl) (Nat.le_of_ble_eq_true rfl) (Nat.le_of_ble_eq_true rfl) rfl d_Md_readSum_29
