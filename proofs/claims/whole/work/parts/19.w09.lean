theorem k_Md_185 : Cond.constantLong "PictureFileModel" 185 64 ∈ kw_Ts := (kw_m6 (i := 156) (by decide +kernel) (by decide +kernel))
theorem fi_Md_187 : kw_fi "PictureFileModel" 187 12 16 false := ⟨mmR_12, mmT_12, 57, rfl, rfl, by decide, mmI_12, mmY_12, mmN_12, rfl, (kw_m5 (i := 159) (by decide +kernel) (by decide +kernel))⟩
theorem fi_Md_190 : kw_fi "PictureFileModel" 190 12 17 false := ⟨mmR_12, mmT_12, 57, rfl, rfl, by decide, mmI_12, mmY_12, mmN_12, rfl, (kw_m5 (i := 160) (by decide +kernel) (by decide +kernel))⟩
theorem fi_Md_179 : kw_fi "PictureFileModel" 179 12 19 false := ⟨mmR_12, mmT_12, 57, rfl, rfl, by decide, mmI_12, mmY_12, mmN_12, rfl, (kw_m5 (i := 162) (by decide +kernel) (by decide +kernel))⟩
theorem mi_Md_193 : kw_mi "PictureFileModel" 193 y_Md_mayBe prog_14_method_17_code 3 (some .boolean) 2 := ⟨(kw_m6 (i := 157) (by decide +kernel) (by decide +kernel)), w_Md_mayBe, in_Md, by decide +kernel, by decide +kernel, by decide +kernel⟩
theorem s_Md_mayBe : Cond.static y_Md_mayBe ∈ kw_Ts := (kw_m6 (i := 158) (by decide +kernel) (by decide +kernel))
theorem fi_Md_196 : kw_fi "PictureFileModel" 196 12 20 false := ⟨mmR_12, mmT_12, 57, rfl, rfl, by decide, mmI_12, mmY_12, mmN_12, rfl, (kw_m5 (i := 163) (by decide +kernel) (by decide +kernel))⟩
def y_Md_readHeader : MethodName := ⟨"PictureFileModel", "readHeader", "(I)Z"⟩
theorem w_Md_readHeader : Cond.code y_Md_readHeader prog_14_method_31_code 2 (some .boolean) ∈ kw_Ts := (kw_m6 (i := 155) (by decide +kernel) (by decide +kernel))
theorem fi_Md_139 : kw_fi "PictureFileModel" 139 12 25 false := ⟨mmR_12, mmT_12, 57, rfl, rfl, by decide, mmI_12, mmY_12, mmN_12, rfl, (kw_m5 (i := 168) (by decide +kernel) (by decide +kernel))⟩
theorem fi_Md_30 : kw_fi "PictureFileModel" 30 12 24 true := ⟨mmR_12, mmT_12, 57, rfl, rfl, by decide, mmI_12, mmY_12, mmN_12, rfl, (kw_m5 (i := 167) (by decide +kernel) (by decide +kernel))⟩
theorem fi_Md_136 : kw_fi "PictureFileModel" 136 12 23 false := ⟨mmR_12, mmT_12, 57, rfl, rfl, by decide, mmI_12, mmY_12, mmN_12, rfl, (kw_m5 (i := 166) (by decide +kernel) (by decide +kernel))⟩
def y_Md_readThins : MethodName := ⟨"PictureFileModel", "readThins", "(II)Z"⟩
theorem w_Md_readThins : Cond.code y_Md_readThins prog_14_method_32_code 6 (some .boolean) ∈ kw_Ts := (kw_m6 (i := 163) (by decide +kernel) (by decide +kernel))
theorem mi_Md_182 : kw_mi "PictureFileModel" 182 y_Md_readThins prog_14_method_32_code 6 (some .boolean) 2 := ⟨(kw_m6 (i := 160) (by decide +kernel) (by decide +kernel)), w_Md_readThins, in_Md, by decide +kernel, by decide +kernel, by decide +kernel⟩
theorem v_Md_readThins : Cond.instanceMethod y_Md_readThins ∈ kw_Ts ∧ Cond.selects y_Md_readThins.cls y_Md_readThins y_Md_readThins ∈ kw_Ts := ⟨(kw_m6 (i := 162) (by decide +kernel) (by decide +kernel)), (kw_sel (i := 54) (by decide +kernel) (by decide +kernel))⟩
theorem fi_Md_27 : kw_fi "PictureFileModel" 27 12 22 true := ⟨mmR_12, mmT_12, 57, rfl, rfl, by decide, mmI_12, mmY_12, mmN_12, rfl, (kw_m5 (i := 165) (by decide +kernel) (by decide +kernel))⟩
theorem fi_Md_176 : kw_fi "PictureFileModel" 176 12 29 false := ⟨mmR_12, mmT_12, 57, rfl, rfl, by decide, mmI_12, mmY_12, mmN_12, rfl, (kw_m5 (i := 172) (by decide +kernel) (by decide +kernel))⟩
theorem fi_Md_33 : kw_fi "PictureFileModel" 33 12 26 true := ⟨mmR_12, mmT_12, 57, rfl, rfl, by decide, mmI_12, mmY_12, mmN_12, rfl, (kw_m5 (i := 169) (by decide +kernel) (by decide +kernel))⟩
theorem fi_Md_142 : kw_fi "PictureFileModel" 142 12 28 false := ⟨mmR_12, mmT_12, 57, rfl, rfl, by decide, mmI_12, mmY_12, mmN_12, rfl, (kw_m5 (i := 171) (by decide +kernel) (by decide +kernel))⟩
theorem fi_Md_36 : kw_fi "PictureFileModel" 36 12 27 true := ⟨mmR_12, mmT_12, 57, rfl, rfl, by decide, mmI_12, mmY_12, mmN_12, rfl, (kw_m5 (i := 170) (by decide +kernel) (by decide +kernel))⟩
theorem mi_Md_173 : kw_mi "PictureFileModel" 173 y_Md_readHeader prog_14_method_31_code 2 (some .boolean) 1 := ⟨(kw_m6 (i := 152) (by decide +kernel) (by decide +kernel)), w_Md_readHeader, in_Md, by decide +kernel, by decide +kernel, by decide +kernel⟩
theorem v_Md_readHeader : Cond.instanceMethod y_Md_readHeader ∈ kw_Ts ∧ Cond.selects y_Md_readHeader.cls y_Md_readHeader y_Md_readHeader ∈ kw_Ts := ⟨(kw_m6 (i := 154) (by decide +kernel) (by decide +kernel)), (kw_sel (i := 53) (by decide +kernel) (by decide +kernel))⟩
def y_Md_readPiece : MethodName := ⟨"PictureFileModel", "readPiece", "(I)Z"⟩
theorem w_Md_readPiece : Cond.code y_Md_readPiece prog_14_method_30_code 4 (some .boolean) ∈ kw_Ts := (kw_m6 (i := 151) (by decide +kernel) (by decide +kernel))
theorem mi_Md_145 : kw_mi "PictureFileModel" 145 y_Md_isPiece prog_14_method_28_code 5 (some .boolean) 1 := ⟨(kw_m6 (i := 127) (by decide +kernel) (by decide +kernel)), w_Md_isPiece, in_Md, by decide +kernel, by decide +kernel, by decide +kernel⟩
theorem v_Md_isPiece : Cond.instanceMethod y_Md_isPiece ∈ kw_Ts ∧ Cond.selects y_Md_isPiece.cls y_Md_isPiece y_Md_isPiece ∈ kw_Ts := ⟨(kw_m6 (i := 129) (by decide +kernel) (by decide +kernel)), (kw_sel (i := 48) (by decide +kernel) (by decide +kernel))⟩
theorem mi_Md_149 : kw_mi "PictureFileModel" 149 y_Md_mayStand prog_14_method_29_code 5 (some .boolean) 1 := ⟨(kw_m6 (i := 140) (by decide +kernel) (by decide +kernel)), w_Md_mayStand, in_Md, by decide +kernel, by decide +kernel, by decide +kernel⟩
theorem v_Md_mayStand : Cond.instanceMethod y_Md_mayStand ∈ kw_Ts ∧ Cond.selects y_Md_mayStand.cls y_Md_mayStand y_Md_mayStand ∈ kw_Ts := ⟨(kw_m6 (i := 142) (by decide +kernel) (by decide +kernel)), (kw_sel (i := 50) (by decide +kernel) (by decide +kernel))⟩
theorem mi_Md_152 : kw_mi "PictureFileModel" 152 y_Md_readPiece prog_14_method_30_code 4 (some .boolean) 1 := ⟨(kw_m6 (i := 148) (by decide +kernel) (by decide +kernel)), w_Md_readPiece, in_Md, by decide +kernel, by decide +kernel, by decide +kernel⟩
theorem v_Md_readPiece : Cond.instanceMethod y_Md_readPiece ∈ kw_Ts ∧ Cond.selects y_Md_readPiece.cls y_Md_readPiece y_Md_readPiece ∈ kw_Ts := ⟨(kw_m6 (i := 150) (by decide +kernel) (by decide +kernel)), (kw_sel (i := 52) (by decide +kernel) (by decide +kernel))⟩
def y_Md_readFile : MethodName := ⟨"PictureFileModel", "readFile", "()Z"⟩
theorem w_Md_readFile : Cond.code y_Md_readFile prog_14_method_27_code 3 (some .boolean) ∈ kw_Ts := (kw_m6 (i := 122) (by decide +kernel) (by decide +kernel))
theorem k_Md_199 : Cond.constantLong "PictureFileModel" 199 8 ∈ kw_Ts := (kw_m6 (i := 194) (by decide +kernel) (by decide +kernel))
def y_Md_placeOf : MethodName := ⟨"PictureFileModel", "placeOf", "(J)I"⟩
theorem w_Md_placeOf : Cond.code y_Md_placeOf prog_14_method_33_code 3 (some .int) ∈ kw_Ts := (kw_m6 (i := 202) (by decide +kernel) (by decide +kernel))
theorem fi_Md_201 : kw_fi "PictureFileModel" 201 12 43 false := ⟨mmR_12, mmT_12, 57, rfl, rfl, by decide, mmI_12, mmY_12, mmN_12, rfl, (kw_m5 (i := 186) (by decide +kernel) (by decide +kernel))⟩
def y_Md_hasBits : MethodName := ⟨"PictureFileModel", "hasBits", "(I)Z"⟩
theorem w_Md_hasBits : Cond.code y_Md_hasBits prog_14_method_34_code 2 (some .boolean) ∈ kw_Ts := (kw_m6 (i := 193) (by decide +kernel) (by decide +kernel))
/-! Md_readHeader -/
def rm_Md_readHeader : Room := { frames := 2, cells := 0, slots := 0, locals := 42 }
def F_Md_readHeader (n : Nat) (t : Nat) (a0 : Int32) (σ : Mm) : Option (Int32 × Mm) :=
kf_c2 (F_Md_number n t a0 σ) fun x1 σ2 =>
kf_j (α := Unit) (fun x4 σ5 =>
kf_c2 (F_Md_flaw n t 9 a0 σ5) fun x6 σ7 =>
kf_z x6 (some (x6, σ7))) fun k3 =>
if (lg_cmp x1 1) < 0 then (
k3 () σ2) else (
kf_c2 (F_Md_number n t a0 σ2) fun x8 σ9 =>
if (lg_cmp x8 64) ≤ 0 then (
kf_c2 (F_Md_number n t (a0 + 4) σ9) fun x10 σ11 =>
kf_j (α := Unit) (fun x13 σ14 =>
kf_c2 (F_Md_flaw n t 9 (a0 + 4) σ14) fun x15 σ16 =>
kf_z x15 (some (x15, σ16))) fun k12 =>
if (lg_cmp x10 1) < 0 then (
k12 () σ11) else (
kf_c2 (F_Md_number n t (a0 + 4) σ11) fun x17 σ18 =>
if (lg_cmp x17 64) ≤ 0 then (
kf_c2 (F_Md_number n t a0 σ18) fun x19 σ20 =>
kf_let (pS σ20 (64 * t + 16) x19.toInt32) fun σ21 =>
kf_c2 (F_Md_number n t (a0 + 4) σ21) fun x22 σ23 =>
kf_let (pS σ23 (64 * t + 17) x22.toInt32) fun σ24 =>
kf_c2 (F_Md_at n t (a0 + 8) σ24) fun x25 σ26 =>
kf_let (pS σ26 (64 * t + 19) x25) fun σ27 =>
kf_c2 (F_Md_at n t (a0 + 9) σ27) fun x28 σ29 =>
kf_let (pS σ29 (64 * t + 18) x28) fun σ30 =>
kf_c2 (F_Md_mayBe n 0 (gS σ30 (64 * t + 19)) σ30) fun x31 σ32 =>
if x31 = 0 then (
kf_c2 (F_Md_flaw n t 9 (a0 + 8) σ32) fun x67 σ68 =>
kf_z x67 (some (x67, σ68))) else (
kf_c2 (F_Md_mayBe n (gS σ32 (64 * t + 18)) (gS σ32 (64 * t + 19)) σ32) fun x33 σ34 =>
if x33 = 0 then (
kf_c2 (F_Md_flaw n t 9 (a0 + 9) σ34) fun x65 σ66 =>
kf_z x65 (some (x65, σ66))) else (
kf_c2 (F_Md_at n t (a0 + 10) σ34) fun x35 σ36 =>
kf_j (α := Unit) (fun x38 σ39 =>
kf_c2 (F_Md_at n t (a0 + 10) σ39) fun x40 σ41 =>
kf_j (α := Int32 × Int32) (fun x43 σ44 =>
kf_c2 (F_Md_flaw n t x43.1 x43.2 σ44) fun x45 σ46 =>
kf_z x45 (some (x45, σ46))) fun k42 =>
if x40 = 0 then (
k42 (9, a0 + 11) σ41) else (
k42 (9, a0 + 10) σ41)) fun k37 =>
if x35 = 0 then (
kf_c2 (F_Md_at n t (a0 + 11) σ36) fun x47 σ48 =>
if x47 = 0 then (
kf_c2 (F_Md_at n t (a0 + 12) σ48) fun x49 σ50 =>
kf_j (α := Int32) (fun x52 σ53 =>
kf_z x52 <| kf_let (pS σ53 (64 * t + 20) x52) fun σ54 =>
kf_c2 (F_Md_at n t (a0 + 12) σ54) fun x55 σ56 =>
kf_j (α := Int32) (fun x58 σ59 =>
kf_z x58 (some (x58, σ59))) fun k57 =>
kf_j (α := Unit) (fun x61 σ62 =>
k57 1 σ62) fun k60 =>
if x55 < 2 then (
k60 () σ56) else (
kf_c2 (F_Md_flaw n t 9 (a0 + 12) σ56) fun x63 σ64 =>
if x63 = 0 then (
k57 0 σ64) else (
k60 () σ64))) fun k51 =>
if x49 = 1 then (
k51 1 σ50) else (
k51 0 σ50)) else (
k37 () σ48)) else (
k37 () σ36)))) else (
k12 () σ18))) else (
k3 () σ9))
theorem d_Md_readHeader_0 : decode prog_14_method_31_code 0 = .ok (.aload_n 0, 1) := by decide +kernel
theorem d_Md_readHeader_1 : decode prog_14_method_31_code 1 = .ok (.iload_n 1, 1) := by decide +kernel
theorem d_Md_readHeader_2 : decode prog_14_method_31_code 2 = .ok (.invokevirtual 159, 3) := by decide +kernel
theorem d_Md_readHeader_5 : decode prog_14_method_31_code 5 = .ok (.lconst 1, 1) := by decide +kernel
theorem d_Md_readHeader_6 : decode prog_14_method_31_code 6 = .ok (.lcmp, 1) := by decide +kernel
theorem d_Md_readHeader_7 : decode prog_14_method_31_code 7 = .ok (.ifCond .lt 15, 3) := by decide +kernel
theorem d_Md_readHeader_10 : decode prog_14_method_31_code 10 = .ok (.aload_n 0, 1) := by decide +kernel
theorem d_Md_readHeader_11 : decode prog_14_method_31_code 11 = .ok (.iload_n 1, 1) := by decide +kernel
theorem d_Md_readHeader_12 : decode prog_14_method_31_code 12 = .ok (.invokevirtual 159, 3) := by decide +kernel
theorem d_Md_readHeader_15 : decode prog_14_method_31_code 15 = .ok (.ldc2_w 185, 3) := by decide +kernel
theorem d_Md_readHeader_18 : decode prog_14_method_31_code 18 = .ok (.lcmp, 1) := by decide +kernel
theorem d_Md_readHeader_19 : decode prog_14_method_31_code 19 = .ok (.ifCond .le 11, 3) := by decide +kernel
theorem d_Md_readHeader_22 : decode prog_14_method_31_code 22 = .ok (.aload_n 0, 1) := by decide +kernel
theorem d_Md_readHeader_23 : decode prog_14_method_31_code 23 = .ok (.bipush 9, 2) := by decide +kernel
theorem d_Md_readHeader_25 : decode prog_14_method_31_code 25 = .ok (.iload_n 1, 1) := by decide +kernel
theorem d_Md_readHeader_26 : decode prog_14_method_31_code 26 = .ok (.invokevirtual 122, 3) := by decide +kernel
theorem d_Md_readHeader_29 : decode prog_14_method_31_code 29 = .ok (.ireturn, 1) := by decide +kernel
theorem d_Md_readHeader_30 : decode prog_14_method_31_code 30 = .ok (.aload_n 0, 1) := by decide +kernel
theorem d_Md_readHeader_31 : decode prog_14_method_31_code 31 = .ok (.iload_n 1, 1) := by decide +kernel
theorem d_Md_readHeader_32 : decode prog_14_method_31_code 32 = .ok (.iconst 4, 1) := by decide +kernel
theorem d_Md_readHeader_33 : decode prog_14_method_31_code 33 = .ok (.iadd, 1) := by decide +kernel
theorem d_Md_readHeader_34 : decode prog_14_method_31_code 34 = .ok (.invokevirtual 159, 3) := by decide +kernel
theorem d_Md_readHeader_37 : decode prog_14_method_31_code 37 = .ok (.lconst 1, 1) := by decide +kernel
theorem d_Md_readHeader_38 : decode prog_14_method_31_code 38 = .ok (.lcmp, 1) := by decide +kernel
theorem d_Md_readHeader_39 : decode prog_14_method_31_code 39 = .ok (.ifCond .lt 17, 3) := by decide +kernel
theorem d_Md_readHeader_42 : decode prog_14_method_31_code 42 = .ok (.aload_n 0, 1) := by decide +kernel
theorem d_Md_readHeader_43 : decode prog_14_method_31_code 43 = .ok (.iload_n 1, 1) := by decide +kernel
theorem d_Md_readHeader_44 : decode prog_14_method_31_code 44 = .ok (.iconst 4, 1) := by decide +kernel
theorem d_Md_readHeader_45 : decode prog_14_method_31_code 45 = .ok (.iadd, 1) := by decide +kernel
theorem d_Md_readHeader_46 : decode prog_14_method_31_code 46 = .ok (.invokevirtual 159, 3) := by decide +kernel
theorem d_Md_readHeader_49 : decode prog_14_method_31_code 49 = .ok (.ldc2_w 185, 3) := by decide +kernel
theorem d_Md_readHeader_52 : decode prog_14_method_31_code 52 = .ok (.lcmp, 1) := by decide +kernel
theorem d_Md_readHeader_53 : decode prog_14_method_31_code 53 = .ok (.ifCond .le 13, 3) := by decide +kernel
theorem d_Md_readHeader_56 : decode prog_14_method_31_code 56 = .ok (.aload_n 0, 1) := by decide +kernel
theorem d_Md_readHeader_57 : decode prog_14_method_31_code 57 = .ok (.bipush 9, 2) := by decide +kernel
theorem d_Md_readHeader_59 : decode prog_14_method_31_code 59 = .ok (.iload_n 1, 1) := by decide +kernel
theorem d_Md_readHeader_60 : decode prog_14_method_31_code 60 = .ok (.iconst 4, 1) := by decide +kernel
theorem d_Md_readHeader_61 : decode prog_14_method_31_code 61 = .ok (.iadd, 1) := by decide +kernel
theorem d_Md_readHeader_62 : decode prog_14_method_31_code 62 = .ok (.invokevirtual 122, 3) := by decide +kernel
theorem d_Md_readHeader_65 : decode prog_14_method_31_code 65 = .ok (.ireturn, 1) := by decide +kernel
theorem d_Md_readHeader_66 : decode prog_14_method_31_code 66 = .ok (.aload_n 0, 1) := by decide +kernel
theorem d_Md_readHeader_67 : decode prog_14_method_31_code 67 = .ok (.aload_n 0, 1) := by decide +kernel
theorem d_Md_readHeader_68 : decode prog_14_method_31_code 68 = .ok (.iload_n 1, 1) := by decide +kernel
theorem d_Md_readHeader_69 : decode prog_14_method_31_code 69 = .ok (.invokevirtual 159, 3) := by decide +kernel
theorem d_Md_readHeader_72 : decode prog_14_method_31_code 72 = .ok (.l2i, 1) := by decide +kernel
theorem d_Md_readHeader_73 : decode prog_14_method_31_code 73 = .ok (.putfield 187, 3) := by decide +kernel
theorem d_Md_readHeader_76 : decode prog_14_method_31_code 76 = .ok (.aload_n 0, 1) := by decide +kernel
theorem d_Md_readHeader_77 : decode prog_14_method_31_code 77 = .ok (.aload_n 0, 1) := by decide +kernel
theorem d_Md_readHeader_78 : decode prog_14_method_31_code 78 = .ok (.iload_n 1, 1) := by decide +kernel
theorem d_Md_readHeader_79 : decode prog_14_method_31_code 79 = .ok (.iconst 4, 1) := by decide +kernel
theorem d_Md_readHeader_80 : decode prog_14_method_31_code 80 = .ok (.iadd, 1) := by decide +kernel
theorem d_Md_readHeader_81 : decode prog_14_method_31_code 81 = .ok (.invokevirtual 159, 3) := by decide +kernel
theorem d_Md_readHeader_84 : decode prog_14_method_31_code 84 = .ok (.l2i, 1) := by decide +kernel
theorem d_Md_readHeader_85 : decode prog_14_method_31_code 85 = .ok (.putfield 190, 3) := by decide +kernel
theorem d_Md_readHeader_88 : decode prog_14_method_31_code 88 = .ok (.aload_n 0, 1) := by decide +kernel
theorem d_Md_readHeader_89 : decode prog_14_method_31_code 89 = .ok (.aload_n 0, 1) := by decide +kernel
theorem d_Md_readHeader_90 : decode prog_14_method_31_code 90 = .ok (.iload_n 1, 1) := by decide +kernel
theorem d_Md_readHeader_91 : decode prog_14_method_31_code 91 = .ok (.bipush 8, 2) := by decide +kernel
theorem d_Md_readHeader_93 : decode prog_14_method_31_code 93 = .ok (.iadd, 1) := by decide +kernel
theorem d_Md_readHeader_94 : decode prog_14_method_31_code 94 = .ok (.invokevirtual 84, 3) := by decide +kernel
theorem d_Md_readHeader_97 : decode prog_14_method_31_code 97 = .ok (.putfield 179, 3) := by decide +kernel
theorem d_Md_readHeader_100 : decode prog_14_method_31_code 100 = .ok (.aload_n 0, 1) := by decide +kernel
theorem d_Md_readHeader_101 : decode prog_14_method_31_code 101 = .ok (.aload_n 0, 1) := by decide +kernel
theorem d_Md_readHeader_102 : decode prog_14_method_31_code 102 = .ok (.iload_n 1, 1) := by decide +kernel
theorem d_Md_readHeader_103 : decode prog_14_method_31_code 103 = .ok (.bipush 9, 2) := by decide +kernel
theorem d_Md_readHeader_105 : decode prog_14_method_31_code 105 = .ok (.iadd, 1) := by decide +kernel
theorem d_Md_readHeader_106 : decode prog_14_method_31_code 106 = .ok (.invokevirtual 84, 3) := by decide +kernel
theorem d_Md_readHeader_109 : decode prog_14_method_31_code 109 = .ok (.putfield 170, 3) := by decide +kernel
theorem d_Md_readHeader_112 : decode prog_14_method_31_code 112 = .ok (.iconst 0, 1) := by decide +kernel
theorem d_Md_readHeader_113 : decode prog_14_method_31_code 113 = .ok (.aload_n 0, 1) := by decide +kernel
theorem d_Md_readHeader_114 : decode prog_14_method_31_code 114 = .ok (.getfield 179, 3) := by decide +kernel
theorem d_Md_readHeader_117 : decode prog_14_method_31_code 117 = .ok (.invokestatic 193, 3) := by decide +kernel
theorem d_Md_readHeader_120 : decode prog_14_method_31_code 120 = .ok (.ifCond .ne 14, 3) := by decide +kernel
theorem d_Md_readHeader_123 : decode prog_14_method_31_code 123 = .ok (.aload_n 0, 1) := by decide +kernel
theorem d_Md_readHeader_124 : decode prog_14_method_31_code 124 = .ok (.bipush 9, 2) := by decide +kernel
theorem d_Md_readHeader_126 : decode prog_14_method_31_code 126 = .ok (.iload_n 1, 1) := by decide +kernel
theorem d_Md_readHeader_127 : decode prog_14_method_31_code 127 = .ok (.bipush 8, 2) := by decide +kernel
theorem d_Md_readHeader_129 : decode prog_14_method_31_code 129 = .ok (.iadd, 1) := by decide +kernel
theorem d_Md_readHeader_130 : decode prog_14_method_31_code 130 = .ok (.invokevirtual 122, 3) := by decide +kernel
theorem d_Md_readHeader_133 : decode prog_14_method_31_code 133 = .ok (.ireturn, 1) := by decide +kernel
theorem d_Md_readHeader_134 : decode prog_14_method_31_code 134 = .ok (.aload_n 0, 1) := by decide +kernel
theorem d_Md_readHeader_135 : decode prog_14_method_31_code 135 = .ok (.getfield 170, 3) := by decide +kernel
theorem d_Md_readHeader_138 : decode prog_14_method_31_code 138 = .ok (.aload_n 0, 1) := by decide +kernel
theorem d_Md_readHeader_139 : decode prog_14_method_31_code 139 = .ok (.getfield 179, 3) := by decide +kernel
theorem d_Md_readHeader_142 : decode prog_14_method_31_code 142 = .ok (.invokestatic 193, 3) := by decide +kernel
theorem d_Md_readHeader_145 : decode prog_14_method_31_code 145 = .ok (.ifCond .ne 14, 3) := by decide +kernel
theorem d_Md_readHeader_148 : decode prog_14_method_31_code 148 = .ok (.aload_n 0, 1) := by decide +kernel
theorem d_Md_readHeader_149 : decode prog_14_method_31_code 149 = .ok (.bipush 9, 2) := by decide +kernel
theorem d_Md_readHeader_151 : decode prog_14_method_31_code 151 = .ok (.iload_n 1, 1) := by decide +kernel
theorem d_Md_readHeader_152 : decode prog_14_method_31_code 152 = .ok (.bipush 9, 2) := by decide +kernel
theorem d_Md_readHeader_154 : decode prog_14_method_31_code 154 = .ok (.iadd, 1) := by decide +kernel
theorem d_Md_readHeader_155 : decode prog_14_method_31_code 155 = .ok (.invokevirtual 122, 3) := by decide +kernel
theorem d_Md_readHeader_158 : decode prog_14_method_31_code 158 = .ok (.ireturn, 1) := by decide +kernel
theorem d_Md_readHeader_159 : decode prog_14_method_31_code 159 = .ok (.aload_n 0, 1) := by decide +kernel
theorem d_Md_readHeader_160 : decode prog_14_method_31_code 160 = .ok (.iload_n 1, 1) := by decide +kernel
theorem d_Md_readHeader_161 : decode prog_14_method_31_code 161 = .ok (.bipush 10, 2) := by decide +kernel
theorem d_Md_readHeader_163 : decode prog_14_method_31_code 163 = .ok (.iadd, 1) := by decide +kernel
theorem d_Md_readHeader_164 : decode prog_14_method_31_code 164 = .ok (.invokevirtual 84, 3) := by decide +kernel
theorem d_Md_readHeader_167 : decode prog_14_method_31_code 167 = .ok (.ifCond .ne 14, 3) := by decide +kernel
theorem d_Md_readHeader_170 : decode prog_14_method_31_code 170 = .ok (.aload_n 0, 1) := by decide +kernel
theorem d_Md_readHeader_171 : decode prog_14_method_31_code 171 = .ok (.iload_n 1, 1) := by decide +kernel
theorem d_Md_readHeader_172 : decode prog_14_method_31_code 172 = .ok (.bipush 11, 2) := by decide +kernel
theorem d_Md_readHeader_174 : decode prog_14_method_31_code 174 = .ok (.iadd, 1) := by decide +kernel
theorem d_Md_readHeader_175 : decode prog_14_method_31_code 175 = .ok (.invokevirtual 84, 3) := by decide +kernel
theorem d_Md_readHeader_178 : decode prog_14_method_31_code 178 = .ok (.ifCond .eq 32, 3) := by decide +kernel
theorem d_Md_readHeader_181 : decode prog_14_method_31_code 181 = .ok (.aload_n 0, 1) := by decide +kernel
theorem d_Md_readHeader_182 : decode prog_14_method_31_code 182 = .ok (.bipush 9, 2) := by decide +kernel
theorem d_Md_readHeader_184 : decode prog_14_method_31_code 184 = .ok (.aload_n 0, 1) := by decide +kernel
theorem d_Md_readHeader_185 : decode prog_14_method_31_code 185 = .ok (.iload_n 1, 1) := by decide +kernel
theorem d_Md_readHeader_186 : decode prog_14_method_31_code 186 = .ok (.bipush 10, 2) := by decide +kernel
theorem d_Md_readHeader_188 : decode prog_14_method_31_code 188 = .ok (.iadd, 1) := by decide +kernel
theorem d_Md_readHeader_189 : decode prog_14_method_31_code 189 = .ok (.invokevirtual 84, 3) := by decide +kernel
theorem d_Md_readHeader_192 : decode prog_14_method_31_code 192 = .ok (.ifCond .eq 10, 3) := by decide +kernel
theorem d_Md_readHeader_195 : decode prog_14_method_31_code 195 = .ok (.iload_n 1, 1) := by decide +kernel
theorem d_Md_readHeader_196 : decode prog_14_method_31_code 196 = .ok (.bipush 10, 2) := by decide +kernel
theorem d_Md_readHeader_198 : decode prog_14_method_31_code 198 = .ok (.iadd, 1) := by decide +kernel
theorem d_Md_readHeader_199 : decode prog_14_method_31_code 199 = .ok (.goto 7, 3) := by decide +kernel
theorem d_Md_readHeader_202 : decode prog_14_method_31_code 202 = .ok (.iload_n 1, 1) := by decide +kernel
theorem d_Md_readHeader_203 : decode prog_14_method_31_code 203 = .ok (.bipush 11, 2) := by decide +kernel
theorem d_Md_readHeader_205 : decode prog_14_method_31_code 205 = .ok (.iadd, 1) := by decide +kernel
theorem d_Md_readHeader_206 : decode prog_14_method_31_code 206 = .ok (.invokevirtual 122, 3) := by decide +kernel
theorem d_Md_readHeader_209 : decode prog_14_method_31_code 209 = .ok (.ireturn, 1) := by decide +kernel
theorem d_Md_readHeader_210 : decode prog_14_method_31_code 210 = .ok (.aload_n 0, 1) := by decide +kernel
theorem d_Md_readHeader_211 : decode prog_14_method_31_code 211 = .ok (.aload_n 0, 1) := by decide +kernel
theorem d_Md_readHeader_212 : decode prog_14_method_31_code 212 = .ok (.iload_n 1, 1) := by decide +kernel
theorem d_Md_readHeader_213 : decode prog_14_method_31_code 213 = .ok (.bipush 12, 2) := by decide +kernel
theorem d_Md_readHeader_215 : decode prog_14_method_31_code 215 = .ok (.iadd, 1) := by decide +kernel
theorem d_Md_readHeader_216 : decode prog_14_method_31_code 216 = .ok (.invokevirtual 84, 3) := by decide +kernel
theorem d_Md_readHeader_219 : decode prog_14_method_31_code 219 = .ok (.iconst 1, 1) := by decide +kernel
theorem d_Md_readHeader_220 : decode prog_14_method_31_code 220 = .ok (.if_icmp .ne 7, 3) := by decide +kernel
theorem d_Md_readHeader_223 : decode prog_14_method_31_code 223 = .ok (.iconst 1, 1) := by decide +kernel
theorem d_Md_readHeader_224 : decode prog_14_method_31_code 224 = .ok (.goto 4, 3) := by decide +kernel
theorem d_Md_readHeader_227 : decode prog_14_method_31_code 227 = .ok (.iconst 0, 1) := by decide +kernel
theorem d_Md_readHeader_228 : decode prog_14_method_31_code 228 = .ok (.putfield 196, 3) := by decide +kernel
theorem d_Md_readHeader_231 : decode prog_14_method_31_code 231 = .ok (.aload_n 0, 1) := by decide +kernel
theorem d_Md_readHeader_232 : decode prog_14_method_31_code 232 = .ok (.iload_n 1, 1) := by decide +kernel
theorem d_Md_readHeader_233 : decode prog_14_method_31_code 233 = .ok (.bipush 12, 2) := by decide +kernel
theorem d_Md_readHeader_235 : decode prog_14_method_31_code 235 = .ok (.iadd, 1) := by decide +kernel
theorem d_Md_readHeader_236 : decode prog_14_method_31_code 236 = .ok (.invokevirtual 84, 3) := by decide +kernel
theorem d_Md_readHeader_239 : decode prog_14_method_31_code 239 = .ok (.iconst 2, 1) := by decide +kernel
theorem d_Md_readHeader_240 : decode prog_14_method_31_code 240 = .ok (.if_icmp .lt 16, 3) := by decide +kernel
theorem d_Md_readHeader_243 : decode prog_14_method_31_code 243 = .ok (.aload_n 0, 1) := by decide +kernel
theorem d_Md_readHeader_244 : decode prog_14_method_31_code 244 = .ok (.bipush 9, 2) := by decide +kernel
theorem d_Md_readHeader_246 : decode prog_14_method_31_code 246 = .ok (.iload_n 1, 1) := by decide +kernel
theorem d_Md_readHeader_247 : decode prog_14_method_31_code 247 = .ok (.bipush 12, 2) := by decide +kernel
theorem d_Md_readHeader_249 : decode prog_14_method_31_code 249 = .ok (.iadd, 1) := by decide +kernel
theorem d_Md_readHeader_250 : decode prog_14_method_31_code 250 = .ok (.invokevirtual 122, 3) := by decide +kernel
theorem d_Md_readHeader_253 : decode prog_14_method_31_code 253 = .ok (.ifCond .eq 7, 3) := by decide +kernel
theorem d_Md_readHeader_256 : decode prog_14_method_31_code 256 = .ok (.iconst 1, 1) := by decide +kernel
theorem d_Md_readHeader_257 : decode prog_14_method_31_code 257 = .ok (.goto 4, 3) := by decide +kernel
theorem d_Md_readHeader_260 : decode prog_14_method_31_code 260 = .ok (.iconst 0, 1) := by decide +kernel
theorem d_Md_readHeader_261 : decode prog_14_method_31_code 261 = .ok (.ireturn, 1) := by decide +kernel
set_option maxRecDepth 100000 in
set_option maxHeartbeats 4000000 in
theorem c_Md_readHeader {l0 : Launch} (hl : l0.stackTraces = false) (n : Nat) (ids : List Nat) {t : Nat} (ht : mm_ok ids t 1 12) (a0 : Int32) (σ : Mm) : kw_C l0 y_Md_readHeader (Cond.code y_Md_readHeader prog_14_method_31_code 2 (some .boolean) :: kw_Ts) rm_Md_readHeader kw_oi ids [] [.ref t, .int a0] σ (F_Md_readHeader n t a0 σ) := by
  refine kw_start (L0 := [some (.ref t), some (.int a0)]) hl (by decide +kernel) (Nat.le_of_ble_eq_true rfl) rfl (fun Γ ad C Ce => ?_)
  unfold F_Md_readHeader
  refine kw_aload_n C d_Md_readHeader_0 rfl ?_
  refine kw_iload_n C d_Md_readHeader_1 rfl ?_
  refine kw_callVl (cl' := 0) (sl' := 0) (As := [.int a0]) C (c_Md_number hl n ids ht a0 σ) mi_Md_159 v_Md_number ⟨_, _, rfl⟩ ht ⟨Nat.le_of_ble_eq_true rfl, Nat.le_of_ble_eq_true rfl⟩ (Nat.le_of_ble_eq_true rfl) ⟨Nat.le_of_ble_eq_true rfl, Nat.le_of_ble_eq_true rfl⟩ ⟨rfl, rfl⟩ rfl d_Md_readHeader_2 (fun x1 σ2 => ?_)
  refine kw_lconst (v := 1) C d_Md_readHeader_5 (by decide) ?_
  refine kw_lcmp C d_Md_readHeader_6 ?_
  refine kw_j (α := Unit) (pcj := 22) (Lj := fun x4 => [some (.ref t), some (.int a0)]) (stj := fun x4 => []) (fun x4 σ5 => ?_) (fun k3 hk3 => ?_)
  · refine kw_aload_n C d_Md_readHeader_22 rfl ?_
    refine kw_bipush (v := 9) C d_Md_readHeader_23 (by decide) ?_
    refine kw_iload_n C d_Md_readHeader_25 rfl ?_
    refine kw_callVi (cl' := 0) (sl' := 0) (As := [.int 9, .int a0]) C (c_Md_flaw hl n ids ht 9 a0 σ5) mi_Md_122 v_Md_flaw ⟨_, _, rfl⟩ ht ⟨Nat.le_of_ble_eq_true rfl, Nat.le_of_ble_eq_true rfl⟩ (Nat.le_of_ble_eq_true rfl) ⟨Nat.le_of_ble_eq_true rfl, Nat.le_of_ble_eq_true rfl⟩ ⟨rfl, rfl⟩ rfl d_Md_readHeader_26 (fun x6 σ7 => ?_)
    exact kw_zret C Ce rfl (by simp) (fun _ _ => rfl) (Nat.le_of_ble_eq_true rfl) (Nat.le_of_ble_eq_true rfl) rfl d_Md_readHeader_29
  · refine kw_if_lt (tgt := 22) C d_Md_readHeader_7 (by decide) ?_ ?_
    · exact kw_wk (hk3 () σ2) ⟨Or.inr rfl, Or.inr rfl, trivial⟩
    · refine kw_aload_n C d_Md_readHeader_10 rfl ?_
      refine kw_iload_n C d_Md_readHeader_11 rfl ?_
      refine kw_callVl (cl' := 0) (sl' := 0) (As := [.int a0]) C (c_Md_number hl n ids ht a0 σ2) mi_Md_159 v_Md_number ⟨_, _, rfl⟩ ht ⟨Nat.le_of_ble_eq_true rfl, Nat.le_of_ble_eq_true rfl⟩ (Nat.le_of_ble_eq_true rfl) ⟨Nat.le_of_ble_eq_true rfl, Nat.le_of_ble_eq_true rfl⟩ ⟨rfl, rfl⟩ rfl d_Md_readHeader_12 (fun x8 σ9 => ?_)
      refine kw_ldc2 (v := 64) C d_Md_readHeader_15 k_Md_185 ?_
      refine kw_lcmp C d_Md_readHeader_18 ?_
      refine kw_if_le (tgt := 30) C d_Md_readHeader_19 (by decide) ?_ ?_
      · refine kw_aload_n C d_Md_readHeader_30 rfl ?_
        refine kw_iload_n C d_Md_readHeader_31 rfl ?_
        refine kw_iconst (v := 4) C d_Md_readHeader_32 (by decide) ?_
        refine kw_iadd C d_Md_readHeader_33 ?_
        refine kw_callVl (cl' := 0) (sl' := 0) (As := [.int (a0 + 4)]) C (c_Md_number hl n ids ht (a0 + 4) σ9) mi_Md_159 v_Md_number ⟨_, _, rfl⟩ ht ⟨Nat.le_of_ble_eq_true rfl, Nat.le_of_ble_eq_true rfl⟩ (Nat.le_of_ble_eq_true rfl) ⟨Nat.le_of_ble_eq_true rfl, Nat.le_of_ble_eq_true rfl⟩ ⟨rfl, rfl⟩ rfl d_Md_readHeader_34 (fun x10 σ11 => ?_)
        refine kw_lconst (v := 1) C d_Md_readHeader_37 (by decide) ?_
        refine kw_lcmp C d_Md_readHeader_38 ?_
        refine kw_j (α := Unit) (pcj := 56) (Lj := fun x13 => [some (.ref t), some (.int a0)]) (stj := fun x13 => []) (fun x13 σ14 => ?_) (fun k12 hk12 => ?_)
        · refine kw_aload_n C d_Md_readHeader_56 rfl ?_
          refine kw_bipush (v := 9) C d_Md_readHeader_57 (by decide) ?_
          refine kw_iload_n C d_Md_readHeader_59 rfl ?_
          refine kw_iconst (v := 4) C d_Md_readHeader_60 (by decide) ?_
          refine kw_iadd C d_Md_readHeader_61 ?_
          refine kw_callVi (cl' := 0) (sl' := 0) (As := [.int 9, .int (a0 + 4)]) C (c_Md_flaw hl n ids ht 9 (a0 + 4) σ14) mi_Md_122 v_Md_flaw ⟨_, _, rfl⟩ ht ⟨Nat.le_of_ble_eq_true rfl, Nat.le_of_ble_eq_true rfl⟩ (Nat.le_of_ble_eq_true rfl) ⟨Nat.le_of_ble_eq_true rfl, Nat.le_of_ble_eq_true rfl⟩ ⟨rfl, rfl⟩ rfl d_Md_readHeader_62 (fun x15 σ16 => ?_)
          exact kw_zret C Ce rfl (by simp) (fun _ _ => rfl) (Nat.le_of_ble_eq_true rfl) (Nat.le_of_ble_eq_true rfl) rfl d_Md_readHeader_65
        · refine kw_if_lt (tgt := 56) C d_Md_readHeader_39 (by decide) ?_ ?_
          · exact kw_wk (hk12 () σ11) ⟨Or.inr rfl, Or.inr rfl, trivial⟩
          · refine kw_aload_n C d_Md_readHeader_42 rfl ?_
            refine kw_iload_n C d_Md_readHeader_43 rfl ?_
            refine kw_iconst (v := 4) C d_Md_readHeader_44 (by decide) ?_
            refine kw_iadd C d_Md_readHeader_45 ?_
            refine kw_callVl (cl' := 0) (sl' := 0) (As := [.int (a0 + 4)]) C (c_Md_number hl n ids ht (a0 + 4) σ11) mi_Md_159 v_Md_number ⟨_, _, rfl⟩ ht ⟨Nat.le_of_ble_eq_true rfl, Nat.le_of_ble_eq_true rfl⟩ (Nat.le_of_ble_eq_true rfl) ⟨Nat.le_of_ble_eq_true rfl, Nat.le_of_ble_eq_true rfl⟩ ⟨rfl, rfl⟩ rfl d_Md_readHeader_46 (fun x17 σ18 => ?_)
            refine kw_ldc2 (v := 64) C d_Md_readHeader_49 k_Md_185 ?_
            refine kw_lcmp C d_Md_readHeader_52 ?_
            refine kw_if_le (tgt := 66) C d_Md_readHeader_53 (by decide) ?_ ?_
            · refine kw_aload_n C d_Md_readHeader_66 rfl ?_
              refine kw_aload_n C d_Md_readHeader_67 rfl ?_
              refine kw_iload_n C d_Md_readHeader_68 rfl ?_
              refine kw_callVl (cl' := 0) (sl' := 0) (As := [.int a0]) C (c_Md_number hl n ids ht a0 σ18) mi_Md_159 v_Md_number ⟨_, _, rfl⟩ ht ⟨Nat.le_of_ble_eq_true rfl, Nat.le_of_ble_eq_true rfl⟩ (Nat.le_of_ble_eq_true rfl) ⟨Nat.le_of_ble_eq_true rfl, Nat.le_of_ble_eq_true rfl⟩ ⟨rfl, rfl⟩ rfl d_Md_readHeader_69 (fun x19 σ20 => ?_)
              refine kw_l2i C d_Md_readHeader_72 ?_
              refine kw_putI C fi_Md_187 rfl ht d_Md_readHeader_73 (fun σ21 => ?_)
              refine kw_aload_n C d_Md_readHeader_76 rfl ?_
              refine kw_aload_n C d_Md_readHeader_77 rfl ?_
              refine kw_iload_n C d_Md_readHeader_78 rfl ?_
              refine kw_iconst (v := 4) C d_Md_readHeader_79 (by decide) ?_
              refine kw_iadd C d_Md_readHeader_80 ?_
              refine kw_callVl (cl' := 0) (sl' := 0) (As := [.int (a0 + 4)]) C (c_Md_number hl n ids ht (a0 + 4) σ21) mi_Md_159 v_Md_number ⟨_, _, rfl⟩ ht ⟨Nat.le_of_ble_eq_true rfl, Nat.le_of_ble_eq_true rfl⟩ (Nat.le_of_ble_eq_true rfl) ⟨Nat.le_of_ble_eq_true rfl, Nat.le_of_ble_eq_true rfl⟩ ⟨rfl, rfl⟩ rfl d_Md_readHeader_81 (fun x22 σ23 => ?_)
              refine kw_l2i C d_Md_readHeader_84 ?_
              refine kw_putI C fi_Md_190 rfl ht d_Md_readHeader_85 (fun σ24 => ?_)
              refine kw_aload_n C d_Md_readHeader_88 rfl ?_
              refine kw_aload_n C d_Md_readHeader_89 rfl ?_
              refine kw_iload_n C d_Md_readHeader_90 rfl ?_
              refine kw_bipush (v := 8) C d_Md_readHeader_91 (by decide) ?_
              refine kw_iadd C d_Md_readHeader_93 ?_
              refine kw_callVi (cl' := 0) (sl' := 0) (As := [.int (a0 + 8)]) C (c_Md_at hl n ids ht (a0 + 8) σ24) mi_Md_84 v_Md_at ⟨_, _, rfl⟩ ht ⟨Nat.le_of_ble_eq_true rfl, Nat.le_of_ble_eq_true rfl⟩ (Nat.le_of_ble_eq_true rfl) ⟨Nat.le_of_ble_eq_true rfl, Nat.le_of_ble_eq_true rfl⟩ ⟨rfl, rfl⟩ rfl d_Md_readHeader_94 (fun x25 σ26 => ?_)
              refine kw_putI C fi_Md_179 rfl ht d_Md_readHeader_97 (fun σ27 => ?_)
              refine kw_aload_n C d_Md_readHeader_100 rfl ?_
              refine kw_aload_n C d_Md_readHeader_101 rfl ?_
              refine kw_iload_n C d_Md_readHeader_102 rfl ?_
              refine kw_bipush (v := 9) C d_Md_readHeader_103 (by decide) ?_
              refine kw_iadd C d_Md_readHeader_105 ?_
              refine kw_callVi (cl' := 0) (sl' := 0) (As := [.int (a0 + 9)]) C (c_Md_at hl n ids ht (a0 + 9) σ27) mi_Md_84 v_Md_at ⟨_, _, rfl⟩ ht ⟨Nat.le_of_ble_eq_true rfl, Nat.le_of_ble_eq_true rfl⟩ (Nat.le_of_ble_eq_true rfl) ⟨Nat.le_of_ble_eq_true rfl, Nat.le_of_ble_eq_true rfl⟩ ⟨rfl, rfl⟩ rfl d_Md_readHeader_106 (fun x28 σ29 => ?_)
              refine kw_putI C fi_Md_170 rfl ht d_Md_readHeader_109 (fun σ30 => ?_)
              refine kw_iconst (v := 0) C d_Md_readHeader_112 (by decide) ?_
              refine kw_aload_n C d_Md_readHeader_113 rfl ?_
              refine kw_getI C fi_Md_179 (Or.inl rfl) ht d_Md_readHeader_114 ?_
              refine kw_callSi (cl' := 0) (sl' := 0) (As := [.int 0, .int (gS σ30 (64 * t + 19))]) C (c_Md_mayBe hl n ids  0 (gS σ30 (64 * t + 19)) σ30) mi_Md_193 s_Md_mayBe ⟨Nat.le_of_ble_eq_true rfl, Nat.le_of_ble_eq_true rfl⟩ (Nat.le_of_ble_eq_true rfl) ⟨Nat.le_of_ble_eq_true rfl, Nat.le_of_ble_eq_true rfl⟩ ⟨rfl, rfl⟩ rfl d_Md_readHeader_117 (fun x31 σ32 => ?_)
              refine kw_if_ne (tgt := 134) C d_Md_readHeader_120 (by decide) ?_ ?_
              · refine kw_aload_n C d_Md_readHeader_134 rfl ?_
                refine kw_getI C fi_Md_170 (Or.inl rfl) ht d_Md_readHeader_135 ?_
                refine kw_aload_n C d_Md_readHeader_138 rfl ?_
                refine kw_getI C fi_Md_179 (Or.inl rfl) ht d_Md_readHeader_139 ?_
                refine kw_callSi (cl' := 0) (sl' := 0) (As := [.int (gS σ32 (64 * t + 18)), .int (gS σ32 (64 * t + 19))]) C (c_Md_mayBe hl n ids  (gS σ32 (64 * t + 18)) (gS σ32 (64 * t + 19)) σ32) mi_Md_193 s_Md_mayBe ⟨Nat.le_of_ble_eq_true rfl, Nat.le_of_ble_eq_true rfl⟩ (Nat.le_of_ble_eq_true rfl) ⟨Nat.le_of_ble_eq_true rfl, Nat.le_of_ble_eq_true rfl⟩ ⟨rfl, rfl⟩ rfl d_Md_readHeader_142 (fun x33 σ34 => ?_)
                refine kw_if_ne (tgt := 159) C d_Md_readHeader_145 (by decide) ?_ ?_
                · refine kw_aload_n C d_Md_readHeader_159 rfl ?_
                  refine kw_iload_n C d_Md_readHeader_160 rfl ?_
                  refine kw_bipush (v := 10) C d_Md_readHeader_161 (by decide) ?_
                  refine kw_iadd C d_Md_readHeader_163 ?_
                  refine kw_callVi (cl' := 0) (sl' := 0) (As := [.int (a0 + 10)]) C (c_Md_at hl n ids ht (a0 + 10) σ34) mi_Md_84 v_Md_at ⟨_, _, rfl⟩ ht ⟨Nat.le_of_ble_eq_true rfl, Nat.le_of_ble_eq_true rfl⟩ (Nat.le_of_ble_eq_true rfl) ⟨Nat.le_of_ble_eq_true rfl, Nat.le_of_ble_eq_true rfl⟩ ⟨rfl, rfl⟩ rfl d_Md_readHeader_164 (fun x35 σ36 => ?_)
                  refine kw_j (α := Unit) (pcj := 181) (Lj := fun x38 => [some (.ref t), some (.int a0)]) (stj := fun x38 => []) (fun x38 σ39 => ?_) (fun k37 hk37 => ?_)
                  · refine kw_aload_n C d_Md_readHeader_181 rfl ?_
                    refine kw_bipush (v := 9) C d_Md_readHeader_182 (by decide) ?_
                    refine kw_aload_n C d_Md_readHeader_184 rfl ?_
                    refine kw_iload_n C d_Md_readHeader_185 rfl ?_
                    refine kw_bipush (v := 10) C d_Md_readHeader_186 (by decide) ?_
                    refine kw_iadd C d_Md_readHeader_188 ?_
                    refine kw_callVi (cl' := 0) (sl' := 0) (As := [.int (a0 + 10)]) C (c_Md_at hl n ids ht (a0 + 10) σ39) mi_Md_84 v_Md_at ⟨_, _, rfl⟩ ht ⟨Nat.le_of_ble_eq_true rfl, Nat.le_of_ble_eq_true rfl⟩ (Nat.le_of_ble_eq_true rfl) ⟨Nat.le_of_ble_eq_true rfl, Nat.le_of_ble_eq_true rfl⟩ ⟨rfl, rfl⟩ rfl d_Md_readHeader_189 (fun x40 σ41 => ?_)
                    refine kw_j (α := Int32 × Int32) (pcj := 206) (Lj := fun x43 => [none, none]) (stj := fun x43 => [.int x43.2, .int x43.1, .ref t]) (fun x43 σ44 => ?_) (fun k42 hk42 => ?_)
                    · refine kw_callVi (cl' := 0) (sl' := 0) (As := [.int x43.1, .int x43.2]) C (c_Md_flaw hl n ids ht x43.1 x43.2 σ44) mi_Md_122 v_Md_flaw ⟨_, _, rfl⟩ ht ⟨Nat.le_of_ble_eq_true rfl, Nat.le_of_ble_eq_true rfl⟩ (Nat.le_of_ble_eq_true rfl) ⟨Nat.le_of_ble_eq_true rfl, Nat.le_of_ble_eq_true rfl⟩ ⟨rfl, rfl⟩ rfl d_Md_readHeader_206 (fun x45 σ46 => ?_)
                      exact kw_zret C Ce rfl (by simp) (fun _ _ => rfl) (Nat.le_of_ble_eq_true rfl) (Nat.le_of_ble_eq_true rfl) rfl d_Md_readHeader_209
                    · refine kw_if_eq (tgt := 202) C d_Md_readHeader_192 (by decide) ?_ ?_
                      · refine kw_iload_n C d_Md_readHeader_202 rfl ?_
                        refine kw_bipush (v := 11) C d_Md_readHeader_203 (by decide) ?_
                        refine kw_iadd C d_Md_readHeader_205 ?_
                        exact kw_wk (hk42 (9, a0 + 11) σ41) ⟨Or.inl rfl, Or.inl rfl, trivial⟩
                      · refine kw_iload_n C d_Md_readHeader_195 rfl ?_
                        refine kw_bipush (v := 10) C d_Md_readHeader_196 (by decide) ?_
                        refine kw_iadd C d_Md_readHeader_198 ?_
                        refine kw_goto (tgt := 206) C d_Md_readHeader_199 (by decide) ?_
                        exact kw_wk (hk42 (9, a0 + 10) σ41) ⟨Or.inl rfl, Or.inl rfl, trivial⟩
                  · refine kw_if_ne (tgt := 181) C d_Md_readHeader_167 (by decide) ?_ ?_
                    · exact kw_wk (hk37 () σ36) ⟨Or.inr rfl, Or.inr rfl, trivial⟩
                    · refine kw_aload_n C d_Md_readHeader_170 rfl ?_
                      refine kw_iload_n C d_Md_readHeader_171 rfl ?_
                      refine kw_bipush (v := 11) C d_Md_readHeader_172 (by decide) ?_
                      refine kw_iadd C d_Md_readHeader_174 ?_
                      refine kw_callVi (cl' := 0) (sl' := 0) (As := [.int (a0 + 11)]) C (c_Md_at hl n ids ht (a0 + 11) σ36) mi_Md_84 v_Md_at ⟨_, _, rfl⟩ ht ⟨Nat.le_of_ble_eq_true rfl, Nat.le_of_ble_eq_true rfl⟩ (Nat.le_of_ble_eq_true rfl) ⟨Nat.le_of_ble_eq_true rfl, Nat.le_of_ble_eq_true rfl⟩ ⟨rfl, rfl⟩ rfl d_Md_readHeader_175 (fun x47 σ48 => ?_)
                      refine kw_if_eq (tgt := 210) C d_Md_readHeader_178 (by decide) ?_ ?_
                      · refine kw_aload_n C d_Md_readHeader_210 rfl ?_
                        refine kw_aload_n C d_Md_readHeader_211 rfl ?_
                        refine kw_iload_n C d_Md_readHeader_212 rfl ?_
                        refine kw_bipush (v := 12) C d_Md_readHeader_213 (by decide) ?_
                        refine kw_iadd C d_Md_readHeader_215 ?_
                        refine kw_callVi (cl' := 0) (sl' := 0) (As := [.int (a0 + 12)]) C (c_Md_at hl n ids ht (a0 + 12) σ48) mi_Md_84 v_Md_at ⟨_, _, rfl⟩ ht ⟨Nat.le_of_ble_eq_true rfl, Nat.le_of_ble_eq_true rfl⟩ (Nat.le_of_ble_eq_true rfl) ⟨Nat.le_of_ble_eq_true rfl, Nat.le_of_ble_eq_true rfl⟩ ⟨rfl, rfl⟩ rfl d_Md_readHeader_216 (fun x49 σ50 => ?_)
                        refine kw_iconst (v := 1) C d_Md_readHeader_219 (by decide) ?_
                        refine kw_j (α := Int32) (pcj := 228) (Lj := fun x52 => [some (.ref t), some (.int a0)]) (stj := fun x52 => [.int x52, .ref t]) (fun x52 σ53 => ?_) (fun k51 hk51 => ?_)
                        · refine kw_putZ C fi_Md_196 rfl ht d_Md_readHeader_228 (fun σ54 => ?_)
                          refine kw_aload_n C d_Md_readHeader_231 rfl ?_
                          refine kw_iload_n C d_Md_readHeader_232 rfl ?_
                          refine kw_bipush (v := 12) C d_Md_readHeader_233 (by decide) ?_
                          refine kw_iadd C d_Md_readHeader_235 ?_
                          refine kw_callVi (cl' := 0) (sl' := 0) (As := [.int (a0 + 12)]) C (c_Md_at hl n ids ht (a0 + 12) σ54) mi_Md_84 v_Md_at ⟨_, _, rfl⟩ ht ⟨Nat.le_of_ble_eq_true rfl, Nat.le_of_ble_eq_true rfl⟩ (Nat.le_of_ble_eq_true rfl) ⟨Nat.le_of_ble_eq_true rfl, Nat.le_of_ble_eq_true rfl⟩ ⟨rfl, rfl⟩ rfl d_Md_readHeader_236 (fun x55 σ56 => ?_)
                          refine kw_iconst (v := 2) C d_Md_readHeader_239 (by decide) ?_
                          refine kw_j (α := Int32) (pcj := 261) (Lj := fun x58 => [none, none]) (stj := fun x58 => [.int x58]) (fun x58 σ59 => ?_) (fun k57 hk57 => ?_)
                          · exact kw_zret C Ce rfl (by simp) (fun _ _ => rfl) (Nat.le_of_ble_eq_true rfl) (Nat.le_of_ble_eq_true rfl) rfl d_Md_readHeader_261
                          · refine kw_j (α := Unit) (pcj := 256) (Lj := fun x61 => [none, none]) (stj := fun x61 => []) (fun x61 σ62 => ?_) (fun k60 hk60 => ?_)
                            · refine kw_iconst (v := 1) C d_Md_readHeader_256 (by decide) ?_
                              refine kw_goto (tgt := 261) C d_Md_readHeader_257 (by decide) ?_
                              exact kw_wk (hk57 1 σ62) ⟨Or.inl rfl, Or.inl rfl, trivial⟩
                            · refine kw_icmp_lt (tgt := 256) C d_Md_readHeader_240 (by decide) ?_ ?_
                              · exact kw_wk (hk60 () σ56) ⟨Or.inl rfl, Or.inl rfl, trivial⟩
                              · refine kw_aload_n C d_Md_readHeader_243 rfl ?_
                                refine kw_bipush (v := 9) C d_Md_readHeader_244 (by decide) ?_
                                refine kw_iload_n C d_Md_readHeader_246 rfl ?_
                                refine kw_bipush (v := 12) C d_Md_readHeader_247 (by decide) ?_
                                refine kw_iadd C d_Md_readHeader_249 ?_
                                refine kw_callVi (cl' := 0) (sl' := 0) (As := [.int 9, .int (a0 + 12)]) C (c_Md_flaw hl n ids ht 9 (a0 + 12) σ56) mi_Md_122 v_Md_flaw ⟨_, _, rfl⟩ ht ⟨Nat.le_of_ble_eq_true rfl, Nat.le_of_ble_eq_true rfl⟩ (Nat.le_of_ble_eq_true rfl) ⟨Nat.le_of_ble_eq_true rfl, Nat.le_of_ble_eq_true rfl⟩ ⟨rfl, rfl⟩ rfl d_Md_readHeader_250 (fun x63 σ64 => ?_)
                                refine kw_if_eq (tgt := 260) C d_Md_readHeader_253 (by decide) ?_ ?_
                                · refine kw_iconst (v := 0) C d_Md_readHeader_260 (by decide) ?_
                                  exact kw_wk (hk57 0 σ64) ⟨Or.inl rfl, Or.inl rfl, trivial⟩
                                · exact kw_wk (hk60 () σ64) ⟨Or.inl rfl, Or.inl rfl, trivial⟩
                        · refine kw_icmp_ne (tgt := 227) C d_Md_readHeader_220 (by decide) ?_ ?_
                          · refine kw_iconst (v := 0) C d_Md_readHeader_227 (by decide) ?_
                            exact kw_wk (hk51 0 σ50) ⟨Or.inr rfl, Or.inr rfl, trivial⟩
                          · refine kw_iconst (v := 1) C d_Md_readHeader_223 (by decide) ?_
                            refine kw_goto (tgt := 228) C d_Md_readHeader_224 (by decide) ?_
                            exact kw_wk (hk51 1 σ50) ⟨Or.inr rfl, Or.inr rfl, trivial⟩
                      · exact kw_wk (hk37 () σ48) ⟨Or.inr rfl, Or.inr rfl, trivial⟩
                · refine kw_aload_n C d_Md_readHeader_148 rfl ?_
                  refine kw_bipush (v := 9) C d_Md_readHeader_149 (by decide) ?_
                  refine kw_iload_n C d_Md_readHeader_151 rfl ?_
                  refine kw_bipush (v := 9) C d_Md_readHeader_152 (by decide) ?_
                  refine kw_iadd C d_Md_readHeader_154 ?_
                  refine kw_callVi (cl' := 0) (sl' := 0) (As := [.int 9, .int (a0 + 9)]) C (c_Md_flaw hl n ids ht 9 (a0 + 9) σ34) mi_Md_122 v_Md_flaw ⟨_, _, rfl⟩ ht ⟨Nat.le_of_ble_eq_true rfl, Nat.le_of_ble_eq_true rfl⟩ (Nat.le_of_ble_eq_true rfl) ⟨Nat.le_of_ble_eq_true rfl, Nat.le_of_ble_eq_true rfl⟩ ⟨rfl, rfl⟩ rfl d_Md_readHeader_155 (fun x65 σ66 => ?_)
                  exact kw_zret C Ce rfl (by simp) (fun _ _ => rfl) (Nat.le_of_ble_eq_true rfl) (Nat.le_of_ble_eq_true rfl) rfl d_Md_readHeader_158
              · refine kw_aload_n C d_Md_readHeader_123 rfl ?_
                refine kw_bipush (v := 9) C d_Md_readHeader_124 (by decide) ?_
                refine kw_iload_n C d_Md_readHeader_126 rfl ?_
                refine kw_bipush (v := 8) C d_Md_readHeader_127 (by decide) ?_
                refine kw_iadd C d_Md_readHeader_129 ?_
                refine kw_callVi (cl' := 0) (sl' := 0) (As := [.int 9, .int (a0 + 8)]) C (c_Md_flaw hl n ids ht 9 (a0 + 8) σ32) mi_Md_122 v_Md_flaw ⟨_, _, rfl⟩ ht ⟨Nat.le_of_ble_eq_true rfl, Nat.le_of_ble_eq_true rfl⟩ (Nat.le_of_ble_eq_true rfl) ⟨Nat.le_of_ble_eq_true rfl, Nat.le_of_ble_eq_true rfl⟩ ⟨rfl, rfl⟩ rfl d_Md_readHeader_130 (fun x67 σ68 => ?_)
                exact kw_zret C Ce rfl (by simp) (fun _ _ => rfl) (Nat.le_of_ble_eq_true rfl) (Nat.le_of_ble_eq_true rfl) rfl d_Md_readHeader_133
            · exact kw_wk (hk12 () σ18) ⟨Or.inr rfl, Or.inr rfl, trivial⟩
      · exact kw_wk (hk3 () σ9) ⟨Or.inr rfl, Or.inr rfl, trivial⟩
/-! Md_readThins -/
def rm_Md_readThins : Room := { frames := 1, cells := 0, slots := 0, locals := 22 }
def F_Md_readThins (n : Nat) (t : Nat) (a0 : Int32) (a1 : Int32) (σ : Mm) : Option (Int32 × Mm) :=
kf_j (α := Int32) (fun x2 σ3 =>
if x2 = 0 then (
kf_c2 (F_Md_flaw n t 8 a0 σ3) fun x34 σ35 =>
kf_z x34 (some (x34, σ35))) else (
kf_z 1 <| kf_let (pS σ3 (64 * t + 41) 1) fun σ4 =>
kf_j (α := Int32) (fun x6 σ7 =>
kf_let (pS σ7 (64 * t + 25) x6) fun σ8 =>
kf_l (α := Int32) n (fun k9 x10 σ11 =>
if (gS σ11 (64 * t + 25)) ≤ x10 then (
kf_z 1 (some (1, σ11))) else (
kf_j (α := Int32 × Int32) (fun x13 σ14 =>
kf_let (x13.1 + x13.2 : Int32) fun x15 =>
Option.bind (gR σ14 (64 * t + 24)) fun o16 =>
kf_j (α := Int32 × Int32) (fun x18 σ19 =>
kf_in x18.1 (mm_kd o16).2.2 <| kf_let (pB σ19 o16 x18.1.toNatClampNeg x18.2) fun σ20 =>
kf_j (α := Unit) (fun x22 σ23 =>
kf_let (x10 + Int32.ofInt 1) fun x24 =>
k9 x24 σ23) fun k21 =>
if (gS σ20 (64 * t + 18)) = 3 then (
k21 () σ20) else (
Option.bind (gR σ20 (64 * t + 24)) fun o25 =>
kf_in x10 (mm_kd o25).2.2 <|
if (gB σ20 o25 x10.toNatClampNeg) < ((1 : Int32) <<< ((gS σ20 (64 * t + 19)) &&& 31)) then (
k21 () σ20) else (
kf_c2 (F_Md_flaw n t 10 x15 σ20) fun x26 σ27 =>
kf_z x26 (some (x26, σ27))))) fun k17 =>
if (gS σ14 (64 * t + 18)) = 3 then (
kf_c2 (F_Md_at n t x15 σ14) fun x32 σ33 =>
k17 (x10, x32) σ33) else (
kf_c2 (F_Md_at n t x15 σ14) fun x28 σ29 =>
kf_c2 (F_Md_at n t (x15 + 1) σ29) fun x30 σ31 =>
k17 (x10, ((256 : Int32) * x28) + x30) σ31)) fun k12 =>
if (gS σ11 (64 * t + 18)) = 3 then (
k12 (a0 + 8, x10) σ11) else (
k12 (a0 + 8, (2 : Int32) * x10) σ11))) 0 σ8) fun k5 =>
if (gS σ4 (64 * t + 18)) = 3 then (
k5 a1 σ4) else (
kf_nz 2 <|
k5 (a1 / 2) σ4))) fun k1 =>
if (gS σ (64 * t + 18)) = 0 then (
if a1 = 2 then (
k1 1 σ) else (
k1 0 σ)) else (
if (gS σ (64 * t + 18)) = 2 then (
if a1 = 6 then (
k1 1 σ) else (
k1 0 σ)) else (
kf_j (α := Unit) (fun x37 σ38 =>
k1 0 σ38) fun k36 =>
if a1 ≤ 0 then (
k36 () σ) else (
if (gS σ (64 * t + 23)) < a1 then (
k36 () σ) else (
k1 1 σ))))
theorem d_Md_readThins_0 : decode prog_14_method_32_code 0 = .ok (.aload_n 0, 1) := by decide +kernel
theorem d_Md_readThins_1 : decode prog_14_method_32_code 1 = .ok (.getfield 170, 3) := by decide +kernel
theorem d_Md_readThins_4 : decode prog_14_method_32_code 4 = .ok (.ifCond .ne 16, 3) := by decide +kernel
theorem d_Md_readThins_7 : decode prog_14_method_32_code 7 = .ok (.iload_n 2, 1) := by decide +kernel
theorem d_Md_readThins_8 : decode prog_14_method_32_code 8 = .ok (.iconst 2, 1) := by decide +kernel
theorem d_Md_readThins_9 : decode prog_14_method_32_code 9 = .ok (.if_icmp .ne 7, 3) := by decide +kernel
theorem d_Md_readThins_12 : decode prog_14_method_32_code 12 = .ok (.iconst 1, 1) := by decide +kernel
theorem d_Md_readThins_13 : decode prog_14_method_32_code 13 = .ok (.goto 46, 3) := by decide +kernel
theorem d_Md_readThins_16 : decode prog_14_method_32_code 16 = .ok (.iconst 0, 1) := by decide +kernel
theorem d_Md_readThins_17 : decode prog_14_method_32_code 17 = .ok (.goto 42, 3) := by decide +kernel
theorem d_Md_readThins_20 : decode prog_14_method_32_code 20 = .ok (.aload_n 0, 1) := by decide +kernel
theorem d_Md_readThins_21 : decode prog_14_method_32_code 21 = .ok (.getfield 170, 3) := by decide +kernel
theorem d_Md_readThins_24 : decode prog_14_method_32_code 24 = .ok (.iconst 2, 1) := by decide +kernel
theorem d_Md_readThins_25 : decode prog_14_method_32_code 25 = .ok (.if_icmp .ne 17, 3) := by decide +kernel
theorem d_Md_readThins_28 : decode prog_14_method_32_code 28 = .ok (.iload_n 2, 1) := by decide +kernel
theorem d_Md_readThins_29 : decode prog_14_method_32_code 29 = .ok (.bipush 6, 2) := by decide +kernel
theorem d_Md_readThins_31 : decode prog_14_method_32_code 31 = .ok (.if_icmp .ne 7, 3) := by decide +kernel
theorem d_Md_readThins_34 : decode prog_14_method_32_code 34 = .ok (.iconst 1, 1) := by decide +kernel
theorem d_Md_readThins_35 : decode prog_14_method_32_code 35 = .ok (.goto 24, 3) := by decide +kernel
theorem d_Md_readThins_38 : decode prog_14_method_32_code 38 = .ok (.iconst 0, 1) := by decide +kernel
theorem d_Md_readThins_39 : decode prog_14_method_32_code 39 = .ok (.goto 20, 3) := by decide +kernel
theorem d_Md_readThins_42 : decode prog_14_method_32_code 42 = .ok (.iload_n 2, 1) := by decide +kernel
theorem d_Md_readThins_43 : decode prog_14_method_32_code 43 = .ok (.ifCond .le 15, 3) := by decide +kernel
theorem d_Md_readThins_46 : decode prog_14_method_32_code 46 = .ok (.iload_n 2, 1) := by decide +kernel
theorem d_Md_readThins_47 : decode prog_14_method_32_code 47 = .ok (.aload_n 0, 1) := by decide +kernel
theorem d_Md_readThins_48 : decode prog_14_method_32_code 48 = .ok (.getfield 136, 3) := by decide +kernel
theorem d_Md_readThins_51 : decode prog_14_method_32_code 51 = .ok (.if_icmp .gt 7, 3) := by decide +kernel
theorem d_Md_readThins_54 : decode prog_14_method_32_code 54 = .ok (.iconst 1, 1) := by decide +kernel
theorem d_Md_readThins_55 : decode prog_14_method_32_code 55 = .ok (.goto 4, 3) := by decide +kernel
theorem d_Md_readThins_58 : decode prog_14_method_32_code 58 = .ok (.iconst 0, 1) := by decide +kernel
theorem d_Md_readThins_59 : decode prog_14_method_32_code 59 = .ok (.istore_n 3, 1) := by decide +kernel
theorem d_Md_readThins_60 : decode prog_14_method_32_code 60 = .ok (.iload_n 3, 1) := by decide +kernel
theorem d_Md_readThins_61 : decode prog_14_method_32_code 61 = .ok (.ifCond .ne 11, 3) := by decide +kernel
theorem d_Md_readThins_64 : decode prog_14_method_32_code 64 = .ok (.aload_n 0, 1) := by decide +kernel
theorem d_Md_readThins_65 : decode prog_14_method_32_code 65 = .ok (.bipush 8, 2) := by decide +kernel
theorem d_Md_readThins_67 : decode prog_14_method_32_code 67 = .ok (.iload_n 1, 1) := by decide +kernel
theorem d_Md_readThins_68 : decode prog_14_method_32_code 68 = .ok (.invokevirtual 122, 3) := by decide +kernel
theorem d_Md_readThins_71 : decode prog_14_method_32_code 71 = .ok (.ireturn, 1) := by decide +kernel
theorem d_Md_readThins_72 : decode prog_14_method_32_code 72 = .ok (.aload_n 0, 1) := by decide +kernel
theorem d_Md_readThins_73 : decode prog_14_method_32_code 73 = .ok (.iconst 1, 1) := by decide +kernel
theorem d_Md_readThins_74 : decode prog_14_method_32_code 74 = .ok (.putfield 130, 3) := by decide +kernel
theorem d_Md_readThins_77 : decode prog_14_method_32_code 77 = .ok (.aload_n 0, 1) := by decide +kernel
theorem d_Md_readThins_78 : decode prog_14_method_32_code 78 = .ok (.aload_n 0, 1) := by decide +kernel
theorem d_Md_readThins_79 : decode prog_14_method_32_code 79 = .ok (.getfield 170, 3) := by decide +kernel
theorem d_Md_readThins_82 : decode prog_14_method_32_code 82 = .ok (.iconst 3, 1) := by decide +kernel
theorem d_Md_readThins_83 : decode prog_14_method_32_code 83 = .ok (.if_icmp .ne 7, 3) := by decide +kernel
theorem d_Md_readThins_86 : decode prog_14_method_32_code 86 = .ok (.iload_n 2, 1) := by decide +kernel
theorem d_Md_readThins_87 : decode prog_14_method_32_code 87 = .ok (.goto 6, 3) := by decide +kernel
theorem d_Md_readThins_90 : decode prog_14_method_32_code 90 = .ok (.iload_n 2, 1) := by decide +kernel
theorem d_Md_readThins_91 : decode prog_14_method_32_code 91 = .ok (.iconst 2, 1) := by decide +kernel
theorem d_Md_readThins_92 : decode prog_14_method_32_code 92 = .ok (.idiv, 1) := by decide +kernel
theorem d_Md_readThins_93 : decode prog_14_method_32_code 93 = .ok (.putfield 139, 3) := by decide +kernel
theorem d_Md_readThins_96 : decode prog_14_method_32_code 96 = .ok (.iconst 0, 1) := by decide +kernel
theorem d_Md_readThins_97 : decode prog_14_method_32_code 97 = .ok (.istore 4, 2) := by decide +kernel
theorem d_Md_readThins_99 : decode prog_14_method_32_code 99 = .ok (.iload 4, 2) := by decide +kernel
theorem d_Md_readThins_101 : decode prog_14_method_32_code 101 = .ok (.aload_n 0, 1) := by decide +kernel
theorem d_Md_readThins_102 : decode prog_14_method_32_code 102 = .ok (.getfield 139, 3) := by decide +kernel
theorem d_Md_readThins_105 : decode prog_14_method_32_code 105 = .ok (.if_icmp .ge 109, 3) := by decide +kernel
theorem d_Md_readThins_108 : decode prog_14_method_32_code 108 = .ok (.iload_n 1, 1) := by decide +kernel
theorem d_Md_readThins_109 : decode prog_14_method_32_code 109 = .ok (.bipush 8, 2) := by decide +kernel
theorem d_Md_readThins_111 : decode prog_14_method_32_code 111 = .ok (.iadd, 1) := by decide +kernel
theorem d_Md_readThins_112 : decode prog_14_method_32_code 112 = .ok (.aload_n 0, 1) := by decide +kernel
theorem d_Md_readThins_113 : decode prog_14_method_32_code 113 = .ok (.getfield 170, 3) := by decide +kernel
theorem d_Md_readThins_116 : decode prog_14_method_32_code 116 = .ok (.iconst 3, 1) := by decide +kernel
theorem d_Md_readThins_117 : decode prog_14_method_32_code 117 = .ok (.if_icmp .ne 8, 3) := by decide +kernel
theorem d_Md_readThins_120 : decode prog_14_method_32_code 120 = .ok (.iload 4, 2) := by decide +kernel
theorem d_Md_readThins_122 : decode prog_14_method_32_code 122 = .ok (.goto 7, 3) := by decide +kernel
theorem d_Md_readThins_125 : decode prog_14_method_32_code 125 = .ok (.iconst 2, 1) := by decide +kernel
theorem d_Md_readThins_126 : decode prog_14_method_32_code 126 = .ok (.iload 4, 2) := by decide +kernel
theorem d_Md_readThins_128 : decode prog_14_method_32_code 128 = .ok (.imul, 1) := by decide +kernel
theorem d_Md_readThins_129 : decode prog_14_method_32_code 129 = .ok (.iadd, 1) := by decide +kernel
theorem d_Md_readThins_130 : decode prog_14_method_32_code 130 = .ok (.istore 5, 2) := by decide +kernel
theorem d_Md_readThins_132 : decode prog_14_method_32_code 132 = .ok (.aload_n 0, 1) := by decide +kernel
theorem d_Md_readThins_133 : decode prog_14_method_32_code 133 = .ok (.getfield 30, 3) := by decide +kernel
theorem d_Md_readThins_136 : decode prog_14_method_32_code 136 = .ok (.iload 4, 2) := by decide +kernel
theorem d_Md_readThins_138 : decode prog_14_method_32_code 138 = .ok (.aload_n 0, 1) := by decide +kernel
theorem d_Md_readThins_139 : decode prog_14_method_32_code 139 = .ok (.getfield 170, 3) := by decide +kernel
theorem d_Md_readThins_142 : decode prog_14_method_32_code 142 = .ok (.iconst 3, 1) := by decide +kernel
theorem d_Md_readThins_143 : decode prog_14_method_32_code 143 = .ok (.if_icmp .ne 12, 3) := by decide +kernel
theorem d_Md_readThins_146 : decode prog_14_method_32_code 146 = .ok (.aload_n 0, 1) := by decide +kernel
theorem d_Md_readThins_147 : decode prog_14_method_32_code 147 = .ok (.iload 5, 2) := by decide +kernel
theorem d_Md_readThins_149 : decode prog_14_method_32_code 149 = .ok (.invokevirtual 84, 3) := by decide +kernel
theorem d_Md_readThins_152 : decode prog_14_method_32_code 152 = .ok (.goto 22, 3) := by decide +kernel
theorem d_Md_readThins_155 : decode prog_14_method_32_code 155 = .ok (.sipush 256, 3) := by decide +kernel
theorem d_Md_readThins_158 : decode prog_14_method_32_code 158 = .ok (.aload_n 0, 1) := by decide +kernel
theorem d_Md_readThins_159 : decode prog_14_method_32_code 159 = .ok (.iload 5, 2) := by decide +kernel
theorem d_Md_readThins_161 : decode prog_14_method_32_code 161 = .ok (.invokevirtual 84, 3) := by decide +kernel
theorem d_Md_readThins_164 : decode prog_14_method_32_code 164 = .ok (.imul, 1) := by decide +kernel
theorem d_Md_readThins_165 : decode prog_14_method_32_code 165 = .ok (.aload_n 0, 1) := by decide +kernel
theorem d_Md_readThins_166 : decode prog_14_method_32_code 166 = .ok (.iload 5, 2) := by decide +kernel
theorem d_Md_readThins_168 : decode prog_14_method_32_code 168 = .ok (.iconst 1, 1) := by decide +kernel
theorem d_Md_readThins_169 : decode prog_14_method_32_code 169 = .ok (.iadd, 1) := by decide +kernel
theorem d_Md_readThins_170 : decode prog_14_method_32_code 170 = .ok (.invokevirtual 84, 3) := by decide +kernel
theorem d_Md_readThins_173 : decode prog_14_method_32_code 173 = .ok (.iadd, 1) := by decide +kernel
theorem d_Md_readThins_174 : decode prog_14_method_32_code 174 = .ok (.iastore, 1) := by decide +kernel
theorem d_Md_readThins_175 : decode prog_14_method_32_code 175 = .ok (.aload_n 0, 1) := by decide +kernel
theorem d_Md_readThins_176 : decode prog_14_method_32_code 176 = .ok (.getfield 170, 3) := by decide +kernel
theorem d_Md_readThins_179 : decode prog_14_method_32_code 179 = .ok (.iconst 3, 1) := by decide +kernel
theorem d_Md_readThins_180 : decode prog_14_method_32_code 180 = .ok (.if_icmp .eq 28, 3) := by decide +kernel
theorem d_Md_readThins_183 : decode prog_14_method_32_code 183 = .ok (.aload_n 0, 1) := by decide +kernel
theorem d_Md_readThins_184 : decode prog_14_method_32_code 184 = .ok (.getfield 30, 3) := by decide +kernel
theorem d_Md_readThins_187 : decode prog_14_method_32_code 187 = .ok (.iload 4, 2) := by decide +kernel
theorem d_Md_readThins_189 : decode prog_14_method_32_code 189 = .ok (.iaload, 1) := by decide +kernel
theorem d_Md_readThins_190 : decode prog_14_method_32_code 190 = .ok (.iconst 1, 1) := by decide +kernel
theorem d_Md_readThins_191 : decode prog_14_method_32_code 191 = .ok (.aload_n 0, 1) := by decide +kernel
theorem d_Md_readThins_192 : decode prog_14_method_32_code 192 = .ok (.getfield 179, 3) := by decide +kernel
theorem d_Md_readThins_195 : decode prog_14_method_32_code 195 = .ok (.ishl, 1) := by decide +kernel
theorem d_Md_readThins_196 : decode prog_14_method_32_code 196 = .ok (.if_icmp .lt 12, 3) := by decide +kernel
theorem d_Md_readThins_199 : decode prog_14_method_32_code 199 = .ok (.aload_n 0, 1) := by decide +kernel
theorem d_Md_readThins_200 : decode prog_14_method_32_code 200 = .ok (.bipush 10, 2) := by decide +kernel
theorem d_Md_readThins_202 : decode prog_14_method_32_code 202 = .ok (.iload 5, 2) := by decide +kernel
theorem d_Md_readThins_204 : decode prog_14_method_32_code 204 = .ok (.invokevirtual 122, 3) := by decide +kernel
theorem d_Md_readThins_207 : decode prog_14_method_32_code 207 = .ok (.ireturn, 1) := by decide +kernel
theorem d_Md_readThins_208 : decode prog_14_method_32_code 208 = .ok (.iinc 4 1, 3) := by decide +kernel
theorem d_Md_readThins_211 : decode prog_14_method_32_code 211 = .ok (.goto (-112), 3) := by decide +kernel
theorem d_Md_readThins_214 : decode prog_14_method_32_code 214 = .ok (.iconst 1, 1) := by decide +kernel
theorem d_Md_readThins_215 : decode prog_14_method_32_code 215 = .ok (.ireturn, 1) := by decide +kernel
set_option maxRecDepth 100000 in
set_option maxHeartbeats 4000000 in
theorem c_Md_readThins {l0 : Launch} (hl : l0.stackTraces = false) (n : Nat) (ids : List Nat) {t : Nat} (ht : mm_ok ids t 1 12) (a0 : Int32) (a1 : Int32) (σ : Mm) : kw_C l0 y_Md_readThins (Cond.code y_Md_readThins prog_14_method_32_code 6 (some .boolean) :: kw_Ts) rm_Md_readThins kw_oi ids [] [.ref t, .int a0, .int a1] σ (F_Md_readThins n t a0 a1 σ) := by
  refine kw_start (L0 := [some (.ref t), some (.int a0), some (.int a1), none, none, none]) hl (by decide +kernel) (Nat.le_of_ble_eq_true rfl) rfl (fun Γ ad C Ce => ?_)
  unfold F_Md_readThins
  refine kw_aload_n C d_Md_readThins_0 rfl ?_
  refine kw_getI C fi_Md_170 (Or.inl rfl) ht d_Md_readThins_1 ?_
  refine kw_j (α := Int32) (pcj := 59) (Lj := fun x2 => [some (.ref t), some (.int a0), some (.int a1), none, none, none]) (stj := fun x2 => [.int x2]) (fun x2 σ3 => ?_) (fun k1 hk1 => ?_)
  · refine kw_istore_n (L' := [some (.ref t), some (.int a0), some (.int a1), some (.int x2), none, none]) C d_Md_readThins_59 (by decide) rfl ?_
    refine kw_iload_n C d_Md_readThins_60 rfl ?_
    refine kw_if_ne (tgt := 72) C d_Md_readThins_61 (by decide) ?_ ?_
    · refine kw_aload_n C d_Md_readThins_72 rfl ?_
      refine kw_iconst (v := 1) C d_Md_readThins_73 (by decide) ?_
      refine kw_putZ C fi_Md_130 rfl ht d_Md_readThins_74 (fun σ4 => ?_)
      refine kw_aload_n C d_Md_readThins_77 rfl ?_
      refine kw_aload_n C d_Md_readThins_78 rfl ?_
      refine kw_getI C fi_Md_170 (Or.inl rfl) ht d_Md_readThins_79 ?_
      refine kw_iconst (v := 3) C d_Md_readThins_82 (by decide) ?_
      refine kw_j (α := Int32) (pcj := 93) (Lj := fun x6 => [some (.ref t), some (.int a0), none, none, none, none]) (stj := fun x6 => [.int x6, .ref t]) (fun x6 σ7 => ?_) (fun k5 hk5 => ?_)
      · refine kw_putI C fi_Md_139 rfl ht d_Md_readThins_93 (fun σ8 => ?_)
        refine kw_iconst (v := 0) C d_Md_readThins_96 (by decide) ?_
        refine kw_istore (L' := [some (.ref t), some (.int a0), none, none, some (.int 0), none]) C d_Md_readThins_97 (by decide) rfl ?_
        refine kw_wk (kw_l (α := Int32) (pc := 99) (Lj := fun x10 => [some (.ref t), some (.int a0), none, none, some (.int x10), none]) (stj := fun x10 => []) (fun k9 hk9 x10 σ11 => ?_) n 0 σ8) ⟨Or.inr rfl, Or.inr rfl, Or.inl rfl, Or.inl rfl, Or.inr rfl, Or.inl rfl, trivial⟩
        refine kw_iload C d_Md_readThins_99 rfl ?_
        refine kw_aload_n C d_Md_readThins_101 rfl ?_
        refine kw_getI C fi_Md_139 (Or.inl rfl) ht d_Md_readThins_102 ?_
        refine kw_icmp_ge (tgt := 214) C d_Md_readThins_105 (by decide) ?_ ?_
        · refine kw_iconst (v := 1) C d_Md_readThins_214 (by decide) ?_
          exact kw_zret C Ce rfl (by simp) (fun _ _ => rfl) (Nat.le_of_ble_eq_true rfl) (Nat.le_of_ble_eq_true rfl) rfl d_Md_readThins_215
        · refine kw_iload_n C d_Md_readThins_108 rfl ?_
          refine kw_bipush (v := 8) C d_Md_readThins_109 (by decide) ?_
          refine kw_iadd C d_Md_readThins_111 ?_
          refine kw_aload_n C d_Md_readThins_112 rfl ?_
          refine kw_getI C fi_Md_170 (Or.inl rfl) ht d_Md_readThins_113 ?_
          refine kw_iconst (v := 3) C d_Md_readThins_116 (by decide) ?_
          refine kw_j (α := Int32 × Int32) (pcj := 129) (Lj := fun x13 => [some (.ref t), some (.int a0), none, none, some (.int x10), none]) (stj := fun x13 => [.int x13.2, .int x13.1]) (fun x13 σ14 => ?_) (fun k12 hk12 => ?_)
          · refine kw_iadd C d_Md_readThins_129 ?_
            refine kw_leti (fun x15 => ?_)
            refine kw_istore (L' := [some (.ref t), some (.int a0), none, none, some (.int x10), some (.int x15)]) C d_Md_readThins_130 (by decide) rfl ?_
            refine kw_aload_n C d_Md_readThins_132 rfl ?_
            refine kw_getR C fi_Md_30 rfl rfl ht d_Md_readThins_133 (fun o16 ho16 => ?_)
            refine kw_iload C d_Md_readThins_136 rfl ?_
            refine kw_aload_n C d_Md_readThins_138 rfl ?_
            refine kw_getI C fi_Md_170 (Or.inl rfl) ht d_Md_readThins_139 ?_
            refine kw_iconst (v := 3) C d_Md_readThins_142 (by decide) ?_
            refine kw_j (α := Int32 × Int32) (pcj := 174) (Lj := fun x18 => [some (.ref t), some (.int a0), none, none, some (.int x10), some (.int x15)]) (stj := fun x18 => [.int x18.2, .int x18.1, .ref o16]) (fun x18 σ19 => ?_) (fun k17 hk17 => ?_)
            · refine kw_iast C ho16 d_Md_readThins_174 (fun σ20 => ?_)
              refine kw_aload_n C d_Md_readThins_175 rfl ?_
              refine kw_getI C fi_Md_170 (Or.inl rfl) ht d_Md_readThins_176 ?_
              refine kw_iconst (v := 3) C d_Md_readThins_179 (by decide) ?_
              refine kw_j (α := Unit) (pcj := 208) (Lj := fun x22 => [some (.ref t), some (.int a0), none, none, some (.int x10), none]) (stj := fun x22 => []) (fun x22 σ23 => ?_) (fun k21 hk21 => ?_)
              · refine kw_iincL (L2 := fun x24 => [some (.ref t), some (.int a0), none, none, some (.int x24), none]) C d_Md_readThins_208 (by decide) rfl (fun _ => rfl) (fun x24 => ?_)
                refine kw_goto (tgt := 99) C d_Md_readThins_211 (by decide) ?_
                exact kw_wk (hk9 x24 σ23) ⟨Or.inr rfl, Or.inr rfl, Or.inl rfl, Or.inl rfl, Or.inr rfl, Or.inl rfl, trivial⟩
              · refine kw_icmp_eq (tgt := 208) C d_Md_readThins_180 (by decide) ?_ ?_
                · exact kw_wk (hk21 () σ20) ⟨Or.inr rfl, Or.inr rfl, Or.inl rfl, Or.inl rfl, Or.inr rfl, Or.inl rfl, trivial⟩
                · refine kw_aload_n C d_Md_readThins_183 rfl ?_
                  refine kw_getR C fi_Md_30 rfl rfl ht d_Md_readThins_184 (fun o25 ho25 => ?_)
                  refine kw_iload C d_Md_readThins_187 rfl ?_
                  refine kw_iald C (Or.inl ⟨ho25.1, ho25.2.1⟩) d_Md_readThins_189 ?_
                  refine kw_iconst (v := 1) C d_Md_readThins_190 (by decide) ?_
                  refine kw_aload_n C d_Md_readThins_191 rfl ?_
                  refine kw_getI C fi_Md_179 (Or.inl rfl) ht d_Md_readThins_192 ?_
                  refine kw_ishl C d_Md_readThins_195 ?_
                  refine kw_icmp_lt (tgt := 208) C d_Md_readThins_196 (by decide) ?_ ?_
                  · exact kw_wk (hk21 () σ20) ⟨Or.inr rfl, Or.inr rfl, Or.inl rfl, Or.inl rfl, Or.inr rfl, Or.inl rfl, trivial⟩
                  · refine kw_aload_n C d_Md_readThins_199 rfl ?_
                    refine kw_bipush (v := 10) C d_Md_readThins_200 (by decide) ?_
                    refine kw_iload C d_Md_readThins_202 rfl ?_
                    refine kw_callVi (cl' := 0) (sl' := 0) (As := [.int 10, .int x15]) C (c_Md_flaw hl n ids ht 10 x15 σ20) mi_Md_122 v_Md_flaw ⟨_, _, rfl⟩ ht ⟨Nat.le_of_ble_eq_true rfl, Nat.le_of_ble_eq_true rfl⟩ (Nat.le_of_ble_eq_true rfl) ⟨Nat.le_of_ble_eq_true rfl, Nat.le_of_ble_eq_true rfl⟩ ⟨rfl, rfl⟩ rfl d_Md_readThins_204 (fun x26 σ27 => ?_)
                    exact kw_zret C Ce rfl (by simp) (fun _ _ => rfl) (Nat.le_of_ble_eq_true rfl) (Nat.le_of_ble_eq_true rfl) rfl d_Md_readThins_207
            · refine kw_icmp_ne (tgt := 155) C d_Md_readThins_143 (by decide) ?_ ?_
              · refine kw_sipush (v := 256) C d_Md_readThins_155 (by decide) ?_
                refine kw_aload_n C d_Md_readThins_158 rfl ?_
                refine kw_iload C d_Md_readThins_159 rfl ?_
                refine kw_callVi (cl' := 0) (sl' := 0) (As := [.int x15]) C (c_Md_at hl n ids ht x15 σ14) mi_Md_84 v_Md_at ⟨_, _, rfl⟩ ht ⟨Nat.le_of_ble_eq_true rfl, Nat.le_of_ble_eq_true rfl⟩ (Nat.le_of_ble_eq_true rfl) ⟨Nat.le_of_ble_eq_true rfl, Nat.le_of_ble_eq_true rfl⟩ ⟨rfl, rfl⟩ rfl d_Md_readThins_161 (fun x28 σ29 => ?_)
                refine kw_imul C d_Md_readThins_164 ?_
                refine kw_aload_n C d_Md_readThins_165 rfl ?_
                refine kw_iload C d_Md_readThins_166 rfl ?_
                refine kw_iconst (v := 1) C d_Md_readThins_168 (by decide) ?_
                refine kw_iadd C d_Md_readThins_169 ?_
                refine kw_callVi (cl' := 0) (sl' := 0) (As := [.int (x15 + 1)]) C (c_Md_at hl n ids ht (x15 + 1) σ29) mi_Md_84 v_Md_at ⟨_, _, rfl⟩ ht ⟨Nat.le_of_ble_eq_true rfl, Nat.le_of_ble_eq_true rfl⟩ (Nat.le_of_ble_eq_true rfl) ⟨Nat.le_of_ble_eq_true rfl, Nat.le_of_ble_eq_true rfl⟩ ⟨rfl, rfl⟩ rfl d_Md_readThins_170 (fun x30 σ31 => ?_)
                refine kw_iadd C d_Md_readThins_173 ?_
                exact kw_wk (hk17 (x10, ((256 : Int32) * x28) + x30) σ31) ⟨Or.inr rfl, Or.inr rfl, Or.inl rfl, Or.inl rfl, Or.inr rfl, Or.inr rfl, trivial⟩
              · refine kw_aload_n C d_Md_readThins_146 rfl ?_
                refine kw_iload C d_Md_readThins_147 rfl ?_
                refine kw_callVi (cl' := 0) (sl' := 0) (As := [.int x15]) C (c_Md_at hl n ids ht x15 σ14) mi_Md_84 v_Md_at ⟨_, _, rfl⟩ ht ⟨Nat.le_of_ble_eq_true rfl, Nat.le_of_ble_eq_true rfl⟩ (Nat.le_of_ble_eq_true rfl) ⟨Nat.le_of_ble_eq_true rfl, Nat.le_of_ble_eq_true rfl⟩ ⟨rfl, rfl⟩ rfl d_Md_readThins_149 (fun x32 σ33 => ?_)
                refine kw_goto (tgt := 174) C d_Md_readThins_152 (by decide) ?_
                exact kw_wk (hk17 (x10, x32) σ33) ⟨Or.inr rfl, Or.inr rfl, Or.inl rfl, Or.inl rfl, Or.inr rfl, Or.inr rfl, trivial⟩
          · refine kw_icmp_ne (tgt := 125) C d_Md_readThins_117 (by decide) ?_ ?_
            · refine kw_iconst (v := 2) C d_Md_readThins_125 (by decide) ?_
              refine kw_iload C d_Md_readThins_126 rfl ?_
              refine kw_imul C d_Md_readThins_128 ?_
              exact kw_wk (hk12 (a0 + 8, (2 : Int32) * x10) σ11) ⟨Or.inr rfl, Or.inr rfl, Or.inl rfl, Or.inl rfl, Or.inr rfl, Or.inl rfl, trivial⟩
            · refine kw_iload C d_Md_readThins_120 rfl ?_
              refine kw_goto (tgt := 129) C d_Md_readThins_122 (by decide) ?_
              exact kw_wk (hk12 (a0 + 8, x10) σ11) ⟨Or.inr rfl, Or.inr rfl, Or.inl rfl, Or.inl rfl, Or.inr rfl, Or.inl rfl, trivial⟩
      · refine kw_icmp_ne (tgt := 90) C d_Md_readThins_83 (by decide) ?_ ?_
        · refine kw_iload_n C d_Md_readThins_90 rfl ?_
          refine kw_iconst (v := 2) C d_Md_readThins_91 (by decide) ?_
          refine kw_idiv C d_Md_readThins_92 ?_
          exact kw_wk (hk5 (a1 / 2) σ4) ⟨Or.inr rfl, Or.inr rfl, Or.inl rfl, Or.inl rfl, Or.inl rfl, Or.inl rfl, trivial⟩
        · refine kw_iload_n C d_Md_readThins_86 rfl ?_
          refine kw_goto (tgt := 93) C d_Md_readThins_87 (by decide) ?_
          exact kw_wk (hk5 a1 σ4) ⟨Or.inr rfl, Or.inr rfl, Or.inl rfl, Or.inl rfl, Or.inl rfl, Or.inl rfl, trivial⟩
    · refine kw_aload_n C d_Md_readThins_64 rfl ?_
      refine kw_bipush (v := 8) C d_Md_readThins_65 (by decide) ?_
      refine kw_iload_n C d_Md_readThins_67 rfl ?_
      refine kw_callVi (cl' := 0) (sl' := 0) (As := [.int 8, .int a0]) C (c_Md_flaw hl n ids ht 8 a0 σ3) mi_Md_122 v_Md_flaw ⟨_, _, rfl⟩ ht ⟨Nat.le_of_ble_eq_true rfl, Nat.le_of_ble_eq_true rfl⟩ (Nat.le_of_ble_eq_true rfl) ⟨Nat.le_of_ble_eq_true rfl, Nat.le_of_ble_eq_true rfl⟩ ⟨rfl, rfl⟩ rfl d_Md_readThins_68 (fun x34 σ35 => ?_)
      exact kw_zret C Ce rfl (by simp) (fun _ _ => rfl) (Nat.le_of_ble_eq_true rfl) (Nat.le_of_ble_eq_true rfl) rfl d_Md_readThins_71
  · refine kw_if_ne (tgt := 20) C d_Md_readThins_4 (by decide) ?_ ?_
    · refine kw_aload_n C d_Md_readThins_20 rfl ?_
      refine kw_getI C fi_Md_170 (Or.inl rfl) ht d_Md_readThins_21 ?_
      refine kw_iconst (v := 2) C d_Md_readThins_24 (by decide) ?_
      refine kw_icmp_ne (tgt := 42) C d_Md_readThins_25 (by decide) ?_ ?_
      · refine kw_iload_n C d_Md_readThins_42 rfl ?_
        refine kw_j (α := Unit) (pcj := 58) (Lj := fun x37 => [some (.ref t), some (.int a0), some (.int a1), none, none, none]) (stj := fun x37 => []) (fun x37 σ38 => ?_) (fun k36 hk36 => ?_)
        · refine kw_iconst (v := 0) C d_Md_readThins_58 (by decide) ?_
          exact kw_wk (hk1 0 σ38) ⟨Or.inr rfl, Or.inr rfl, Or.inr rfl, Or.inl rfl, Or.inl rfl, Or.inl rfl, trivial⟩
        · refine kw_if_le (tgt := 58) C d_Md_readThins_43 (by decide) ?_ ?_
          · exact kw_wk (hk36 () σ) ⟨Or.inr rfl, Or.inr rfl, Or.inr rfl, Or.inl rfl, Or.inl rfl, Or.inl rfl, trivial⟩
          · refine kw_iload_n C d_Md_readThins_46 rfl ?_
            refine kw_aload_n C d_Md_readThins_47 rfl ?_
            refine kw_getI C fi_Md_136 (Or.inl rfl) ht d_Md_readThins_48 ?_
            refine kw_icmp_gt (tgt := 58) C d_Md_readThins_51 (by decide) ?_ ?_
            · exact kw_wk (hk36 () σ) ⟨Or.inr rfl, Or.inr rfl, Or.inr rfl, Or.inl rfl, Or.inl rfl, Or.inl rfl, trivial⟩
            · refine kw_iconst (v := 1) C d_Md_readThins_54 (by decide) ?_
              refine kw_goto (tgt := 59) C d_Md_readThins_55 (by decide) ?_
              exact kw_wk (hk1 1 σ) ⟨Or.inr rfl, Or.inr rfl, Or.inr rfl, Or.inl rfl, Or.inl rfl, Or.inl rfl, trivial⟩
      · refine kw_iload_n C d_Md_readThins_28 rfl ?_
        refine kw_bipush (v := 6) C d_Md_readThins_29 (by decide) ?_
        refine kw_icmp_ne (tgt := 38) C d_Md_readThins_31 (by decide) ?_ ?_
        · refine kw_iconst (v := 0) C d_Md_readThins_38 (by decide) ?_
          refine kw_goto (tgt := 59) C d_Md_readThins_39 (by decide) ?_
          exact kw_wk (hk1 0 σ) ⟨Or.inr rfl, Or.inr rfl, Or.inr rfl, Or.inl rfl, Or.inl rfl, Or.inl rfl, trivial⟩
        · refine kw_iconst (v := 1) C d_Md_readThins_34 (by decide) ?_
          refine kw_goto (tgt := 59) C d_Md_readThins_35 (by decide) ?_
          exact kw_wk (hk1 1 σ) ⟨Or.inr rfl, Or.inr rfl, Or.inr rfl, Or.inl rfl, Or.inl rfl, Or.inl rfl, trivial⟩
    · refine kw_iload_n C d_Md_readThins_7 rfl ?_
      refine kw_iconst (v := 2) C d_Md_readThins_8 (by decide) ?_
      refine kw_icmp_ne (tgt := 16) C d_Md_readThins_9 (by decide) ?_ ?_
      · refine kw_iconst (v := 0) C d_Md_readThins_16 (by decide) ?_
        refine kw_goto (tgt := 59) C d_Md_readThins_17 (by decide) ?_
        exact kw_wk (hk1 0 σ) ⟨Or.inr rfl, Or.inr rfl, Or.inr rfl, Or.inl rfl, Or.inl rfl, Or.inl rfl, trivial⟩
      · refine kw_iconst (v := 1) C d_Md_readThins_12 (by decide) ?_
        refine kw_goto (tgt := 59) C d_Md_readThins_13 (by decide) ?_
        exact kw_wk (hk1 1 σ) ⟨Or.inr rfl, Or.inr rfl, Or.inr rfl, Or.inl rfl, Or.inl rfl, Or.inl rfl, trivial⟩
/-! Md_readPiece -/
def rm_Md_readPiece : Room := { frames := 3, cells := 0, slots := 0, locals := 63 }
def F_Md_readPiece (n : Nat) (t : Nat) (a0 : Int32) (σ : Mm) : Option (Int32 × Mm) :=
kf_c2 (F_Md_number n t a0 σ) fun x1 σ2 =>
kf_c2 (F_Md_isType n t a0 73 72 68 82 σ2) fun x3 σ4 =>
if x3 = 0 then (
kf_c2 (F_Md_isType n t a0 73 68 65 84 σ4) fun x5 σ6 =>
if x5 = 0 then (
kf_j (α := Int32) (fun x8 σ9 =>
kf_let (pS σ9 (64 * t + 42) x8) fun σ10 =>
kf_c2 (F_Md_isType n t a0 80 76 84 69 σ10) fun x11 σ12 =>
kf_j (α := Unit) (fun x14 σ15 =>
kf_c2 (F_Md_isType n t a0 73 69 78 68 σ15) fun x16 σ17 =>
kf_j (α := Int32) (fun x19 σ20 =>
kf_z x19 (some (x19, σ20))) fun k18 =>
kf_j (α := Unit) (fun x22 σ23 =>
k18 1 σ23) fun k21 =>
if x16 = 0 then (
k21 () σ17) else (
if x1.toInt32 = 0 then (
k21 () σ17) else (
kf_c2 (F_Md_flaw n t 8 a0 σ17) fun x24 σ25 =>
if x24 = 0 then (
k18 0 σ25) else (
k21 () σ25)))) fun k13 =>
if x11 = 0 then (
kf_c2 (F_Md_isType n t a0 116 82 78 83 σ12) fun x26 σ27 =>
if x26 = 0 then (
k13 () σ27) else (
kf_c2 (F_Md_readThins n t a0 x1.toInt32 σ27) fun x28 σ29 =>
kf_z x28 (some (x28, σ29)))) else (
kf_nz 3 <|
kf_j (α := Unit) (fun x31 σ32 =>
kf_c2 (F_Md_flaw n t 8 a0 σ32) fun x33 σ34 =>
kf_z x33 (some (x33, σ34))) fun k30 =>
if (x1.toInt32 - x1.toInt32 / 3 * 3) = 0 then (
if x1.toInt32 = 0 then (
k30 () σ12) else (
if 768 < x1.toInt32 then (
k30 () σ12) else (
kf_j (α := Unit) (fun x36 σ37 =>
kf_z 1 <| kf_let (pS σ37 (64 * t + 40) 1) fun σ38 =>
kf_nz 3 <|
kf_let (pS σ38 (64 * t + 23) (x1.toInt32 / 3)) fun σ39 =>
kf_l (α := Int32) n (fun k40 x41 σ42 =>
if x1.toInt32 ≤ x41 then (
k13 () σ42) else (
Option.bind (gR σ42 (64 * t + 22)) fun o43 =>
kf_c2 (F_Md_at n t ((a0 + 8) + x41) σ42) fun x44 σ45 =>
kf_in x41 (mm_kd o43).2.2 <| kf_let (pB σ45 o43 x41.toNatClampNeg x44) fun σ46 =>
kf_let (x41 + Int32.ofInt 1) fun x47 =>
k40 x47 σ46)) 0 σ39) fun k35 =>
if (gS σ12 (64 * t + 18)) = 3 then (
kf_nz 3 <|
if (x1.toInt32 / 3) ≤ ((1 : Int32) <<< ((gS σ12 (64 * t + 19)) &&& 31)) then (
k35 () σ12) else (
k30 () σ12)) else (
k35 () σ12)))) else (
k30 () σ12))) fun k7 =>
if (gS σ6 (64 * t + 42)) = 1 then (
k7 2 σ6) else (
k7 (gS σ6 (64 * t + 42)) σ6)) else (
kf_let (a0 + 8 : Int32) fun x48 =>
kf_l (α := Int32) n (fun k49 x50 σ51 =>
if ((a0 + 8) + x1.toInt32) ≤ x50 then (
kf_let (pS σ51 (64 * t + 29) ((a0 + 8) + x1.toInt32)) fun σ52 =>
kf_let (pS σ52 (64 * t + 42) 1) fun σ53 =>
kf_z 1 (some (1, σ53))) else (
Option.bind (gR σ51 (64 * t + 26)) fun o54 =>
Option.bind (gR σ51 (64 * t + 1)) fun o55 =>
kf_in x50 (mm_kd o55).2.2 <|
kf_in (gS σ51 (64 * t + 28)) (mm_kd o54).2.2 <| kf_let (pB σ51 o54 (gS σ51 (64 * t + 28)).toNatClampNeg (vp_nar .byte (gB σ51 o55 x50.toNatClampNeg))) fun σ56 =>
Option.bind (gR σ56 (64 * t + 27)) fun o57 =>
kf_in (gS σ56 (64 * t + 28)) (mm_kd o57).2.2 <| kf_let (pB σ56 o57 (gS σ56 (64 * t + 28)).toNatClampNeg x50) fun σ58 =>
kf_let (pS σ58 (64 * t + 28) ((gS σ58 (64 * t + 28)) + 1)) fun σ59 =>
kf_let (x50 + Int32.ofInt 1) fun x60 =>
k49 x60 σ59)) x48 σ6)) else (
kf_j (α := Int32) (fun x62 σ63 =>
kf_z x62 (some (x62, σ63))) fun k61 =>
if x1.toInt32 = 13 then (
kf_c2 (F_Md_readHeader n t (a0 + 8) σ4) fun x66 σ67 =>
k61 x66 σ67) else (
kf_c2 (F_Md_flaw n t 8 a0 σ4) fun x64 σ65 =>
k61 x64 σ65))
theorem d_Md_readPiece_0 : decode prog_14_method_30_code 0 = .ok (.aload_n 0, 1) := by decide +kernel
theorem d_Md_readPiece_1 : decode prog_14_method_30_code 1 = .ok (.iload_n 1, 1) := by decide +kernel
theorem d_Md_readPiece_2 : decode prog_14_method_30_code 2 = .ok (.invokevirtual 159, 3) := by decide +kernel
theorem d_Md_readPiece_5 : decode prog_14_method_30_code 5 = .ok (.l2i, 1) := by decide +kernel
theorem d_Md_readPiece_6 : decode prog_14_method_30_code 6 = .ok (.istore_n 2, 1) := by decide +kernel
theorem d_Md_readPiece_7 : decode prog_14_method_30_code 7 = .ok (.aload_n 0, 1) := by decide +kernel
theorem d_Md_readPiece_8 : decode prog_14_method_30_code 8 = .ok (.iload_n 1, 1) := by decide +kernel
theorem d_Md_readPiece_9 : decode prog_14_method_30_code 9 = .ok (.bipush 73, 2) := by decide +kernel
theorem d_Md_readPiece_11 : decode prog_14_method_30_code 11 = .ok (.bipush 72, 2) := by decide +kernel
theorem d_Md_readPiece_13 : decode prog_14_method_30_code 13 = .ok (.bipush 68, 2) := by decide +kernel
theorem d_Md_readPiece_15 : decode prog_14_method_30_code 15 = .ok (.bipush 82, 2) := by decide +kernel
theorem d_Md_readPiece_17 : decode prog_14_method_30_code 17 = .ok (.invokevirtual 155, 3) := by decide +kernel
theorem d_Md_readPiece_20 : decode prog_14_method_30_code 20 = .ok (.ifCond .eq 28, 3) := by decide +kernel
theorem d_Md_readPiece_23 : decode prog_14_method_30_code 23 = .ok (.iload_n 2, 1) := by decide +kernel
theorem d_Md_readPiece_24 : decode prog_14_method_30_code 24 = .ok (.bipush 13, 2) := by decide +kernel
theorem d_Md_readPiece_26 : decode prog_14_method_30_code 26 = .ok (.if_icmp .ne 14, 3) := by decide +kernel
theorem d_Md_readPiece_29 : decode prog_14_method_30_code 29 = .ok (.aload_n 0, 1) := by decide +kernel
theorem d_Md_readPiece_30 : decode prog_14_method_30_code 30 = .ok (.iload_n 1, 1) := by decide +kernel
theorem d_Md_readPiece_31 : decode prog_14_method_30_code 31 = .ok (.bipush 8, 2) := by decide +kernel
theorem d_Md_readPiece_33 : decode prog_14_method_30_code 33 = .ok (.iadd, 1) := by decide +kernel
theorem d_Md_readPiece_34 : decode prog_14_method_30_code 34 = .ok (.invokevirtual 173, 3) := by decide +kernel
theorem d_Md_readPiece_37 : decode prog_14_method_30_code 37 = .ok (.goto 10, 3) := by decide +kernel
theorem d_Md_readPiece_40 : decode prog_14_method_30_code 40 = .ok (.aload_n 0, 1) := by decide +kernel
theorem d_Md_readPiece_41 : decode prog_14_method_30_code 41 = .ok (.bipush 8, 2) := by decide +kernel
theorem d_Md_readPiece_43 : decode prog_14_method_30_code 43 = .ok (.iload_n 1, 1) := by decide +kernel
theorem d_Md_readPiece_44 : decode prog_14_method_30_code 44 = .ok (.invokevirtual 122, 3) := by decide +kernel
theorem d_Md_readPiece_47 : decode prog_14_method_30_code 47 = .ok (.ireturn, 1) := by decide +kernel
theorem d_Md_readPiece_48 : decode prog_14_method_30_code 48 = .ok (.aload_n 0, 1) := by decide +kernel
theorem d_Md_readPiece_49 : decode prog_14_method_30_code 49 = .ok (.iload_n 1, 1) := by decide +kernel
theorem d_Md_readPiece_50 : decode prog_14_method_30_code 50 = .ok (.bipush 73, 2) := by decide +kernel
theorem d_Md_readPiece_52 : decode prog_14_method_30_code 52 = .ok (.bipush 68, 2) := by decide +kernel
theorem d_Md_readPiece_54 : decode prog_14_method_30_code 54 = .ok (.bipush 65, 2) := by decide +kernel
theorem d_Md_readPiece_56 : decode prog_14_method_30_code 56 = .ok (.bipush 84, 2) := by decide +kernel
theorem d_Md_readPiece_58 : decode prog_14_method_30_code 58 = .ok (.invokevirtual 155, 3) := by decide +kernel
theorem d_Md_readPiece_61 : decode prog_14_method_30_code 61 = .ok (.ifCond .eq 76, 3) := by decide +kernel
theorem d_Md_readPiece_64 : decode prog_14_method_30_code 64 = .ok (.iload_n 1, 1) := by decide +kernel
theorem d_Md_readPiece_65 : decode prog_14_method_30_code 65 = .ok (.bipush 8, 2) := by decide +kernel
theorem d_Md_readPiece_67 : decode prog_14_method_30_code 67 = .ok (.iadd, 1) := by decide +kernel
theorem d_Md_readPiece_68 : decode prog_14_method_30_code 68 = .ok (.istore_n 3, 1) := by decide +kernel
theorem d_Md_readPiece_69 : decode prog_14_method_30_code 69 = .ok (.iload_n 3, 1) := by decide +kernel
theorem d_Md_readPiece_70 : decode prog_14_method_30_code 70 = .ok (.iload_n 1, 1) := by decide +kernel
theorem d_Md_readPiece_71 : decode prog_14_method_30_code 71 = .ok (.bipush 8, 2) := by decide +kernel
theorem d_Md_readPiece_73 : decode prog_14_method_30_code 73 = .ok (.iadd, 1) := by decide +kernel
theorem d_Md_readPiece_74 : decode prog_14_method_30_code 74 = .ok (.iload_n 2, 1) := by decide +kernel
theorem d_Md_readPiece_75 : decode prog_14_method_30_code 75 = .ok (.iadd, 1) := by decide +kernel
theorem d_Md_readPiece_76 : decode prog_14_method_30_code 76 = .ok (.if_icmp .ge 44, 3) := by decide +kernel
theorem d_Md_readPiece_79 : decode prog_14_method_30_code 79 = .ok (.aload_n 0, 1) := by decide +kernel
theorem d_Md_readPiece_80 : decode prog_14_method_30_code 80 = .ok (.getfield 33, 3) := by decide +kernel
theorem d_Md_readPiece_83 : decode prog_14_method_30_code 83 = .ok (.aload_n 0, 1) := by decide +kernel
theorem d_Md_readPiece_84 : decode prog_14_method_30_code 84 = .ok (.getfield 142, 3) := by decide +kernel
theorem d_Md_readPiece_87 : decode prog_14_method_30_code 87 = .ok (.aload_n 0, 1) := by decide +kernel
theorem d_Md_readPiece_88 : decode prog_14_method_30_code 88 = .ok (.getfield 8, 3) := by decide +kernel
theorem d_Md_readPiece_91 : decode prog_14_method_30_code 91 = .ok (.iload_n 3, 1) := by decide +kernel
theorem d_Md_readPiece_92 : decode prog_14_method_30_code 92 = .ok (.baload, 1) := by decide +kernel
theorem d_Md_readPiece_93 : decode prog_14_method_30_code 93 = .ok (.bastore, 1) := by decide +kernel
theorem d_Md_readPiece_94 : decode prog_14_method_30_code 94 = .ok (.aload_n 0, 1) := by decide +kernel
theorem d_Md_readPiece_95 : decode prog_14_method_30_code 95 = .ok (.getfield 36, 3) := by decide +kernel
theorem d_Md_readPiece_98 : decode prog_14_method_30_code 98 = .ok (.aload_n 0, 1) := by decide +kernel
theorem d_Md_readPiece_99 : decode prog_14_method_30_code 99 = .ok (.getfield 142, 3) := by decide +kernel
theorem d_Md_readPiece_102 : decode prog_14_method_30_code 102 = .ok (.iload_n 3, 1) := by decide +kernel
theorem d_Md_readPiece_103 : decode prog_14_method_30_code 103 = .ok (.iastore, 1) := by decide +kernel
theorem d_Md_readPiece_104 : decode prog_14_method_30_code 104 = .ok (.aload_n 0, 1) := by decide +kernel
theorem d_Md_readPiece_105 : decode prog_14_method_30_code 105 = .ok (.dup, 1) := by decide +kernel
theorem d_Md_readPiece_106 : decode prog_14_method_30_code 106 = .ok (.getfield 142, 3) := by decide +kernel
theorem d_Md_readPiece_109 : decode prog_14_method_30_code 109 = .ok (.iconst 1, 1) := by decide +kernel
theorem d_Md_readPiece_110 : decode prog_14_method_30_code 110 = .ok (.iadd, 1) := by decide +kernel
theorem d_Md_readPiece_111 : decode prog_14_method_30_code 111 = .ok (.putfield 142, 3) := by decide +kernel
theorem d_Md_readPiece_114 : decode prog_14_method_30_code 114 = .ok (.iinc 3 1, 3) := by decide +kernel
theorem d_Md_readPiece_117 : decode prog_14_method_30_code 117 = .ok (.goto (-48), 3) := by decide +kernel
theorem d_Md_readPiece_120 : decode prog_14_method_30_code 120 = .ok (.aload_n 0, 1) := by decide +kernel
theorem d_Md_readPiece_121 : decode prog_14_method_30_code 121 = .ok (.iload_n 1, 1) := by decide +kernel
theorem d_Md_readPiece_122 : decode prog_14_method_30_code 122 = .ok (.bipush 8, 2) := by decide +kernel
theorem d_Md_readPiece_124 : decode prog_14_method_30_code 124 = .ok (.iadd, 1) := by decide +kernel
theorem d_Md_readPiece_125 : decode prog_14_method_30_code 125 = .ok (.iload_n 2, 1) := by decide +kernel
theorem d_Md_readPiece_126 : decode prog_14_method_30_code 126 = .ok (.iadd, 1) := by decide +kernel
theorem d_Md_readPiece_127 : decode prog_14_method_30_code 127 = .ok (.putfield 176, 3) := by decide +kernel
theorem d_Md_readPiece_130 : decode prog_14_method_30_code 130 = .ok (.aload_n 0, 1) := by decide +kernel
theorem d_Md_readPiece_131 : decode prog_14_method_30_code 131 = .ok (.iconst 1, 1) := by decide +kernel
theorem d_Md_readPiece_132 : decode prog_14_method_30_code 132 = .ok (.putfield 133, 3) := by decide +kernel
theorem d_Md_readPiece_135 : decode prog_14_method_30_code 135 = .ok (.iconst 1, 1) := by decide +kernel
theorem d_Md_readPiece_136 : decode prog_14_method_30_code 136 = .ok (.ireturn, 1) := by decide +kernel
theorem d_Md_readPiece_137 : decode prog_14_method_30_code 137 = .ok (.aload_n 0, 1) := by decide +kernel
theorem d_Md_readPiece_138 : decode prog_14_method_30_code 138 = .ok (.aload_n 0, 1) := by decide +kernel
theorem d_Md_readPiece_139 : decode prog_14_method_30_code 139 = .ok (.getfield 133, 3) := by decide +kernel
theorem d_Md_readPiece_142 : decode prog_14_method_30_code 142 = .ok (.iconst 1, 1) := by decide +kernel
theorem d_Md_readPiece_143 : decode prog_14_method_30_code 143 = .ok (.if_icmp .ne 7, 3) := by decide +kernel
theorem d_Md_readPiece_146 : decode prog_14_method_30_code 146 = .ok (.iconst 2, 1) := by decide +kernel
theorem d_Md_readPiece_147 : decode prog_14_method_30_code 147 = .ok (.goto 7, 3) := by decide +kernel
theorem d_Md_readPiece_150 : decode prog_14_method_30_code 150 = .ok (.aload_n 0, 1) := by decide +kernel
theorem d_Md_readPiece_151 : decode prog_14_method_30_code 151 = .ok (.getfield 133, 3) := by decide +kernel
theorem d_Md_readPiece_154 : decode prog_14_method_30_code 154 = .ok (.putfield 133, 3) := by decide +kernel
theorem d_Md_readPiece_157 : decode prog_14_method_30_code 157 = .ok (.aload_n 0, 1) := by decide +kernel
theorem d_Md_readPiece_158 : decode prog_14_method_30_code 158 = .ok (.iload_n 1, 1) := by decide +kernel
theorem d_Md_readPiece_159 : decode prog_14_method_30_code 159 = .ok (.bipush 80, 2) := by decide +kernel
theorem d_Md_readPiece_161 : decode prog_14_method_30_code 161 = .ok (.bipush 76, 2) := by decide +kernel
theorem d_Md_readPiece_163 : decode prog_14_method_30_code 163 = .ok (.bipush 84, 2) := by decide +kernel
theorem d_Md_readPiece_165 : decode prog_14_method_30_code 165 = .ok (.bipush 69, 2) := by decide +kernel
theorem d_Md_readPiece_167 : decode prog_14_method_30_code 167 = .ok (.invokevirtual 155, 3) := by decide +kernel
theorem d_Md_readPiece_170 : decode prog_14_method_30_code 170 = .ok (.ifCond .eq 92, 3) := by decide +kernel
theorem d_Md_readPiece_173 : decode prog_14_method_30_code 173 = .ok (.iload_n 2, 1) := by decide +kernel
theorem d_Md_readPiece_174 : decode prog_14_method_30_code 174 = .ok (.iconst 3, 1) := by decide +kernel
theorem d_Md_readPiece_175 : decode prog_14_method_30_code 175 = .ok (.irem, 1) := by decide +kernel
theorem d_Md_readPiece_176 : decode prog_14_method_30_code 176 = .ok (.ifCond .ne 34, 3) := by decide +kernel
theorem d_Md_readPiece_179 : decode prog_14_method_30_code 179 = .ok (.iload_n 2, 1) := by decide +kernel
theorem d_Md_readPiece_180 : decode prog_14_method_30_code 180 = .ok (.ifCond .eq 30, 3) := by decide +kernel
theorem d_Md_readPiece_183 : decode prog_14_method_30_code 183 = .ok (.iload_n 2, 1) := by decide +kernel
theorem d_Md_readPiece_184 : decode prog_14_method_30_code 184 = .ok (.sipush 768, 3) := by decide +kernel
theorem d_Md_readPiece_187 : decode prog_14_method_30_code 187 = .ok (.if_icmp .gt 23, 3) := by decide +kernel
theorem d_Md_readPiece_190 : decode prog_14_method_30_code 190 = .ok (.aload_n 0, 1) := by decide +kernel
theorem d_Md_readPiece_191 : decode prog_14_method_30_code 191 = .ok (.getfield 170, 3) := by decide +kernel
theorem d_Md_readPiece_194 : decode prog_14_method_30_code 194 = .ok (.iconst 3, 1) := by decide +kernel
theorem d_Md_readPiece_195 : decode prog_14_method_30_code 195 = .ok (.if_icmp .ne 23, 3) := by decide +kernel
theorem d_Md_readPiece_198 : decode prog_14_method_30_code 198 = .ok (.iload_n 2, 1) := by decide +kernel
theorem d_Md_readPiece_199 : decode prog_14_method_30_code 199 = .ok (.iconst 3, 1) := by decide +kernel
theorem d_Md_readPiece_200 : decode prog_14_method_30_code 200 = .ok (.idiv, 1) := by decide +kernel
theorem d_Md_readPiece_201 : decode prog_14_method_30_code 201 = .ok (.iconst 1, 1) := by decide +kernel
theorem d_Md_readPiece_202 : decode prog_14_method_30_code 202 = .ok (.aload_n 0, 1) := by decide +kernel
theorem d_Md_readPiece_203 : decode prog_14_method_30_code 203 = .ok (.getfield 179, 3) := by decide +kernel
theorem d_Md_readPiece_206 : decode prog_14_method_30_code 206 = .ok (.ishl, 1) := by decide +kernel
theorem d_Md_readPiece_207 : decode prog_14_method_30_code 207 = .ok (.if_icmp .le 11, 3) := by decide +kernel
theorem d_Md_readPiece_210 : decode prog_14_method_30_code 210 = .ok (.aload_n 0, 1) := by decide +kernel
theorem d_Md_readPiece_211 : decode prog_14_method_30_code 211 = .ok (.bipush 8, 2) := by decide +kernel
theorem d_Md_readPiece_213 : decode prog_14_method_30_code 213 = .ok (.iload_n 1, 1) := by decide +kernel
theorem d_Md_readPiece_214 : decode prog_14_method_30_code 214 = .ok (.invokevirtual 122, 3) := by decide +kernel
theorem d_Md_readPiece_217 : decode prog_14_method_30_code 217 = .ok (.ireturn, 1) := by decide +kernel
theorem d_Md_readPiece_218 : decode prog_14_method_30_code 218 = .ok (.aload_n 0, 1) := by decide +kernel
theorem d_Md_readPiece_219 : decode prog_14_method_30_code 219 = .ok (.iconst 1, 1) := by decide +kernel
theorem d_Md_readPiece_220 : decode prog_14_method_30_code 220 = .ok (.putfield 126, 3) := by decide +kernel
theorem d_Md_readPiece_223 : decode prog_14_method_30_code 223 = .ok (.aload_n 0, 1) := by decide +kernel
theorem d_Md_readPiece_224 : decode prog_14_method_30_code 224 = .ok (.iload_n 2, 1) := by decide +kernel
theorem d_Md_readPiece_225 : decode prog_14_method_30_code 225 = .ok (.iconst 3, 1) := by decide +kernel
theorem d_Md_readPiece_226 : decode prog_14_method_30_code 226 = .ok (.idiv, 1) := by decide +kernel
theorem d_Md_readPiece_227 : decode prog_14_method_30_code 227 = .ok (.putfield 136, 3) := by decide +kernel
theorem d_Md_readPiece_230 : decode prog_14_method_30_code 230 = .ok (.iconst 0, 1) := by decide +kernel
theorem d_Md_readPiece_231 : decode prog_14_method_30_code 231 = .ok (.istore_n 3, 1) := by decide +kernel
theorem d_Md_readPiece_232 : decode prog_14_method_30_code 232 = .ok (.iload_n 3, 1) := by decide +kernel
theorem d_Md_readPiece_233 : decode prog_14_method_30_code 233 = .ok (.iload_n 2, 1) := by decide +kernel
theorem d_Md_readPiece_234 : decode prog_14_method_30_code 234 = .ok (.if_icmp .ge 25, 3) := by decide +kernel
theorem d_Md_readPiece_237 : decode prog_14_method_30_code 237 = .ok (.aload_n 0, 1) := by decide +kernel
theorem d_Md_readPiece_238 : decode prog_14_method_30_code 238 = .ok (.getfield 27, 3) := by decide +kernel
theorem d_Md_readPiece_241 : decode prog_14_method_30_code 241 = .ok (.iload_n 3, 1) := by decide +kernel
theorem d_Md_readPiece_242 : decode prog_14_method_30_code 242 = .ok (.aload_n 0, 1) := by decide +kernel
theorem d_Md_readPiece_243 : decode prog_14_method_30_code 243 = .ok (.iload_n 1, 1) := by decide +kernel
theorem d_Md_readPiece_244 : decode prog_14_method_30_code 244 = .ok (.bipush 8, 2) := by decide +kernel
theorem d_Md_readPiece_246 : decode prog_14_method_30_code 246 = .ok (.iadd, 1) := by decide +kernel
theorem d_Md_readPiece_247 : decode prog_14_method_30_code 247 = .ok (.iload_n 3, 1) := by decide +kernel
theorem d_Md_readPiece_248 : decode prog_14_method_30_code 248 = .ok (.iadd, 1) := by decide +kernel
theorem d_Md_readPiece_249 : decode prog_14_method_30_code 249 = .ok (.invokevirtual 84, 3) := by decide +kernel
theorem d_Md_readPiece_252 : decode prog_14_method_30_code 252 = .ok (.iastore, 1) := by decide +kernel
theorem d_Md_readPiece_253 : decode prog_14_method_30_code 253 = .ok (.iinc 3 1, 3) := by decide +kernel
theorem d_Md_readPiece_256 : decode prog_14_method_30_code 256 = .ok (.goto (-24), 3) := by decide +kernel
theorem d_Md_readPiece_259 : decode prog_14_method_30_code 259 = .ok (.goto 26, 3) := by decide +kernel
theorem d_Md_readPiece_262 : decode prog_14_method_30_code 262 = .ok (.aload_n 0, 1) := by decide +kernel
theorem d_Md_readPiece_263 : decode prog_14_method_30_code 263 = .ok (.iload_n 1, 1) := by decide +kernel
theorem d_Md_readPiece_264 : decode prog_14_method_30_code 264 = .ok (.bipush 116, 2) := by decide +kernel
theorem d_Md_readPiece_266 : decode prog_14_method_30_code 266 = .ok (.bipush 82, 2) := by decide +kernel
theorem d_Md_readPiece_268 : decode prog_14_method_30_code 268 = .ok (.bipush 78, 2) := by decide +kernel
theorem d_Md_readPiece_270 : decode prog_14_method_30_code 270 = .ok (.bipush 83, 2) := by decide +kernel
theorem d_Md_readPiece_272 : decode prog_14_method_30_code 272 = .ok (.invokevirtual 155, 3) := by decide +kernel
theorem d_Md_readPiece_275 : decode prog_14_method_30_code 275 = .ok (.ifCond .eq 10, 3) := by decide +kernel
theorem d_Md_readPiece_278 : decode prog_14_method_30_code 278 = .ok (.aload_n 0, 1) := by decide +kernel
theorem d_Md_readPiece_279 : decode prog_14_method_30_code 279 = .ok (.iload_n 1, 1) := by decide +kernel
theorem d_Md_readPiece_280 : decode prog_14_method_30_code 280 = .ok (.iload_n 2, 1) := by decide +kernel
theorem d_Md_readPiece_281 : decode prog_14_method_30_code 281 = .ok (.invokevirtual 182, 3) := by decide +kernel
theorem d_Md_readPiece_284 : decode prog_14_method_30_code 284 = .ok (.ireturn, 1) := by decide +kernel
theorem d_Md_readPiece_285 : decode prog_14_method_30_code 285 = .ok (.aload_n 0, 1) := by decide +kernel
theorem d_Md_readPiece_286 : decode prog_14_method_30_code 286 = .ok (.iload_n 1, 1) := by decide +kernel
theorem d_Md_readPiece_287 : decode prog_14_method_30_code 287 = .ok (.bipush 73, 2) := by decide +kernel
theorem d_Md_readPiece_289 : decode prog_14_method_30_code 289 = .ok (.bipush 69, 2) := by decide +kernel
theorem d_Md_readPiece_291 : decode prog_14_method_30_code 291 = .ok (.bipush 78, 2) := by decide +kernel
theorem d_Md_readPiece_293 : decode prog_14_method_30_code 293 = .ok (.bipush 68, 2) := by decide +kernel
theorem d_Md_readPiece_295 : decode prog_14_method_30_code 295 = .ok (.invokevirtual 155, 3) := by decide +kernel
theorem d_Md_readPiece_298 : decode prog_14_method_30_code 298 = .ok (.ifCond .eq 17, 3) := by decide +kernel
theorem d_Md_readPiece_301 : decode prog_14_method_30_code 301 = .ok (.iload_n 2, 1) := by decide +kernel
theorem d_Md_readPiece_302 : decode prog_14_method_30_code 302 = .ok (.ifCond .eq 13, 3) := by decide +kernel
theorem d_Md_readPiece_305 : decode prog_14_method_30_code 305 = .ok (.aload_n 0, 1) := by decide +kernel
theorem d_Md_readPiece_306 : decode prog_14_method_30_code 306 = .ok (.bipush 8, 2) := by decide +kernel
theorem d_Md_readPiece_308 : decode prog_14_method_30_code 308 = .ok (.iload_n 1, 1) := by decide +kernel
theorem d_Md_readPiece_309 : decode prog_14_method_30_code 309 = .ok (.invokevirtual 122, 3) := by decide +kernel
theorem d_Md_readPiece_312 : decode prog_14_method_30_code 312 = .ok (.ifCond .eq 7, 3) := by decide +kernel
theorem d_Md_readPiece_315 : decode prog_14_method_30_code 315 = .ok (.iconst 1, 1) := by decide +kernel
theorem d_Md_readPiece_316 : decode prog_14_method_30_code 316 = .ok (.goto 4, 3) := by decide +kernel
theorem d_Md_readPiece_319 : decode prog_14_method_30_code 319 = .ok (.iconst 0, 1) := by decide +kernel
theorem d_Md_readPiece_320 : decode prog_14_method_30_code 320 = .ok (.ireturn, 1) := by decide +kernel
set_option maxRecDepth 100000 in
set_option maxHeartbeats 4000000 in
theorem c_Md_readPiece {l0 : Launch} (hl : l0.stackTraces = false) (n : Nat) (ids : List Nat) {t : Nat} (ht : mm_ok ids t 1 12) (a0 : Int32) (σ : Mm) : kw_C l0 y_Md_readPiece (Cond.code y_Md_readPiece prog_14_method_30_code 4 (some .boolean) :: kw_Ts) rm_Md_readPiece kw_oi ids [] [.ref t, .int a0] σ (F_Md_readPiece n t a0 σ) := by
  refine kw_start (L0 := [some (.ref t), some (.int a0), none, none]) hl (by decide +kernel) (Nat.le_of_ble_eq_true rfl) rfl (fun Γ ad C Ce => ?_)
  unfold F_Md_readPiece
  refine kw_aload_n C d_Md_readPiece_0 rfl ?_
  refine kw_iload_n C d_Md_readPiece_1 rfl ?_
  refine kw_callVl (cl' := 0) (sl' := 0) (As := [.int a0]) C (c_Md_number hl n ids ht a0 σ) mi_Md_159 v_Md_number ⟨_, _, rfl⟩ ht ⟨Nat.le_of_ble_eq_true rfl, Nat.le_of_ble_eq_true rfl⟩ (Nat.le_of_ble_eq_true rfl) ⟨Nat.le_of_ble_eq_true rfl, Nat.le_of_ble_eq_true rfl⟩ ⟨rfl, rfl⟩ rfl d_Md_readPiece_2 (fun x1 σ2 => ?_)
  refine kw_l2i C d_Md_readPiece_5 ?_
  refine kw_istore_n (L' := [some (.ref t), some (.int a0), some (.int x1.toInt32), none]) C d_Md_readPiece_6 (by decide) rfl ?_
  refine kw_aload_n C d_Md_readPiece_7 rfl ?_
  refine kw_iload_n C d_Md_readPiece_8 rfl ?_
  refine kw_bipush (v := 73) C d_Md_readPiece_9 (by decide) ?_
  refine kw_bipush (v := 72) C d_Md_readPiece_11 (by decide) ?_
  refine kw_bipush (v := 68) C d_Md_readPiece_13 (by decide) ?_
  refine kw_bipush (v := 82) C d_Md_readPiece_15 (by decide) ?_
  refine kw_callVi (cl' := 0) (sl' := 0) (As := [.int a0, .int 73, .int 72, .int 68, .int 82]) C (c_Md_isType hl n ids ht a0 73 72 68 82 σ2) mi_Md_155 v_Md_isType ⟨_, _, rfl⟩ ht ⟨Nat.le_of_ble_eq_true rfl, Nat.le_of_ble_eq_true rfl⟩ (Nat.le_of_ble_eq_true rfl) ⟨Nat.le_of_ble_eq_true rfl, Nat.le_of_ble_eq_true rfl⟩ ⟨rfl, rfl⟩ rfl d_Md_readPiece_17 (fun x3 σ4 => ?_)
  refine kw_if_eq (tgt := 48) C d_Md_readPiece_20 (by decide) ?_ ?_
  · refine kw_aload_n C d_Md_readPiece_48 rfl ?_
    refine kw_iload_n C d_Md_readPiece_49 rfl ?_
    refine kw_bipush (v := 73) C d_Md_readPiece_50 (by decide) ?_
    refine kw_bipush (v := 68) C d_Md_readPiece_52 (by decide) ?_
    refine kw_bipush (v := 65) C d_Md_readPiece_54 (by decide) ?_
    refine kw_bipush (v := 84) C d_Md_readPiece_56 (by decide) ?_
    refine kw_callVi (cl' := 0) (sl' := 0) (As := [.int a0, .int 73, .int 68, .int 65, .int 84]) C (c_Md_isType hl n ids ht a0 73 68 65 84 σ4) mi_Md_155 v_Md_isType ⟨_, _, rfl⟩ ht ⟨Nat.le_of_ble_eq_true rfl, Nat.le_of_ble_eq_true rfl⟩ (Nat.le_of_ble_eq_true rfl) ⟨Nat.le_of_ble_eq_true rfl, Nat.le_of_ble_eq_true rfl⟩ ⟨rfl, rfl⟩ rfl d_Md_readPiece_58 (fun x5 σ6 => ?_)
    refine kw_if_eq (tgt := 137) C d_Md_readPiece_61 (by decide) ?_ ?_
    · refine kw_aload_n C d_Md_readPiece_137 rfl ?_
      refine kw_aload_n C d_Md_readPiece_138 rfl ?_
      refine kw_getI C fi_Md_133 (Or.inl rfl) ht d_Md_readPiece_139 ?_
      refine kw_iconst (v := 1) C d_Md_readPiece_142 (by decide) ?_
      refine kw_j (α := Int32) (pcj := 154) (Lj := fun x8 => [some (.ref t), some (.int a0), some (.int x1.toInt32), none]) (stj := fun x8 => [.int x8, .ref t]) (fun x8 σ9 => ?_) (fun k7 hk7 => ?_)
      · refine kw_putI C fi_Md_133 rfl ht d_Md_readPiece_154 (fun σ10 => ?_)
        refine kw_aload_n C d_Md_readPiece_157 rfl ?_
        refine kw_iload_n C d_Md_readPiece_158 rfl ?_
        refine kw_bipush (v := 80) C d_Md_readPiece_159 (by decide) ?_
        refine kw_bipush (v := 76) C d_Md_readPiece_161 (by decide) ?_
        refine kw_bipush (v := 84) C d_Md_readPiece_163 (by decide) ?_
        refine kw_bipush (v := 69) C d_Md_readPiece_165 (by decide) ?_
        refine kw_callVi (cl' := 0) (sl' := 0) (As := [.int a0, .int 80, .int 76, .int 84, .int 69]) C (c_Md_isType hl n ids ht a0 80 76 84 69 σ10) mi_Md_155 v_Md_isType ⟨_, _, rfl⟩ ht ⟨Nat.le_of_ble_eq_true rfl, Nat.le_of_ble_eq_true rfl⟩ (Nat.le_of_ble_eq_true rfl) ⟨Nat.le_of_ble_eq_true rfl, Nat.le_of_ble_eq_true rfl⟩ ⟨rfl, rfl⟩ rfl d_Md_readPiece_167 (fun x11 σ12 => ?_)
        refine kw_j (α := Unit) (pcj := 285) (Lj := fun x14 => [some (.ref t), some (.int a0), some (.int x1.toInt32), none]) (stj := fun x14 => []) (fun x14 σ15 => ?_) (fun k13 hk13 => ?_)
        · refine kw_aload_n C d_Md_readPiece_285 rfl ?_
          refine kw_iload_n C d_Md_readPiece_286 rfl ?_
          refine kw_bipush (v := 73) C d_Md_readPiece_287 (by decide) ?_
          refine kw_bipush (v := 69) C d_Md_readPiece_289 (by decide) ?_
          refine kw_bipush (v := 78) C d_Md_readPiece_291 (by decide) ?_
          refine kw_bipush (v := 68) C d_Md_readPiece_293 (by decide) ?_
          refine kw_callVi (cl' := 0) (sl' := 0) (As := [.int a0, .int 73, .int 69, .int 78, .int 68]) C (c_Md_isType hl n ids ht a0 73 69 78 68 σ15) mi_Md_155 v_Md_isType ⟨_, _, rfl⟩ ht ⟨Nat.le_of_ble_eq_true rfl, Nat.le_of_ble_eq_true rfl⟩ (Nat.le_of_ble_eq_true rfl) ⟨Nat.le_of_ble_eq_true rfl, Nat.le_of_ble_eq_true rfl⟩ ⟨rfl, rfl⟩ rfl d_Md_readPiece_295 (fun x16 σ17 => ?_)
          refine kw_j (α := Int32) (pcj := 320) (Lj := fun x19 => [none, none, none, none]) (stj := fun x19 => [.int x19]) (fun x19 σ20 => ?_) (fun k18 hk18 => ?_)
          · exact kw_zret C Ce rfl (by simp) (fun _ _ => rfl) (Nat.le_of_ble_eq_true rfl) (Nat.le_of_ble_eq_true rfl) rfl d_Md_readPiece_320
          · refine kw_j (α := Unit) (pcj := 315) (Lj := fun x22 => [none, none, none, none]) (stj := fun x22 => []) (fun x22 σ23 => ?_) (fun k21 hk21 => ?_)
            · refine kw_iconst (v := 1) C d_Md_readPiece_315 (by decide) ?_
              refine kw_goto (tgt := 320) C d_Md_readPiece_316 (by decide) ?_
              exact kw_wk (hk18 1 σ23) ⟨Or.inl rfl, Or.inl rfl, Or.inl rfl, Or.inl rfl, trivial⟩
            · refine kw_if_eq (tgt := 315) C d_Md_readPiece_298 (by decide) ?_ ?_
              · exact kw_wk (hk21 () σ17) ⟨Or.inl rfl, Or.inl rfl, Or.inl rfl, Or.inl rfl, trivial⟩
              · refine kw_iload_n C d_Md_readPiece_301 rfl ?_
                refine kw_if_eq (tgt := 315) C d_Md_readPiece_302 (by decide) ?_ ?_
                · exact kw_wk (hk21 () σ17) ⟨Or.inl rfl, Or.inl rfl, Or.inl rfl, Or.inl rfl, trivial⟩
                · refine kw_aload_n C d_Md_readPiece_305 rfl ?_
                  refine kw_bipush (v := 8) C d_Md_readPiece_306 (by decide) ?_
                  refine kw_iload_n C d_Md_readPiece_308 rfl ?_
                  refine kw_callVi (cl' := 0) (sl' := 0) (As := [.int 8, .int a0]) C (c_Md_flaw hl n ids ht 8 a0 σ17) mi_Md_122 v_Md_flaw ⟨_, _, rfl⟩ ht ⟨Nat.le_of_ble_eq_true rfl, Nat.le_of_ble_eq_true rfl⟩ (Nat.le_of_ble_eq_true rfl) ⟨Nat.le_of_ble_eq_true rfl, Nat.le_of_ble_eq_true rfl⟩ ⟨rfl, rfl⟩ rfl d_Md_readPiece_309 (fun x24 σ25 => ?_)
                  refine kw_if_eq (tgt := 319) C d_Md_readPiece_312 (by decide) ?_ ?_
                  · refine kw_iconst (v := 0) C d_Md_readPiece_319 (by decide) ?_
                    exact kw_wk (hk18 0 σ25) ⟨Or.inl rfl, Or.inl rfl, Or.inl rfl, Or.inl rfl, trivial⟩
                  · exact kw_wk (hk21 () σ25) ⟨Or.inl rfl, Or.inl rfl, Or.inl rfl, Or.inl rfl, trivial⟩
        · refine kw_if_eq (tgt := 262) C d_Md_readPiece_170 (by decide) ?_ ?_
          · refine kw_aload_n C d_Md_readPiece_262 rfl ?_
            refine kw_iload_n C d_Md_readPiece_263 rfl ?_
            refine kw_bipush (v := 116) C d_Md_readPiece_264 (by decide) ?_
            refine kw_bipush (v := 82) C d_Md_readPiece_266 (by decide) ?_
            refine kw_bipush (v := 78) C d_Md_readPiece_268 (by decide) ?_
            refine kw_bipush (v := 83) C d_Md_readPiece_270 (by decide) ?_
            refine kw_callVi (cl' := 0) (sl' := 0) (As := [.int a0, .int 116, .int 82, .int 78, .int 83]) C (c_Md_isType hl n ids ht a0 116 82 78 83 σ12) mi_Md_155 v_Md_isType ⟨_, _, rfl⟩ ht ⟨Nat.le_of_ble_eq_true rfl, Nat.le_of_ble_eq_true rfl⟩ (Nat.le_of_ble_eq_true rfl) ⟨Nat.le_of_ble_eq_true rfl, Nat.le_of_ble_eq_true rfl⟩ ⟨rfl, rfl⟩ rfl d_Md_readPiece_272 (fun x26 σ27 => ?_)
            refine kw_if_eq (tgt := 285) C d_Md_readPiece_275 (by decide) ?_ ?_
            · exact kw_wk (hk13 () σ27) ⟨Or.inr rfl, Or.inr rfl, Or.inr rfl, Or.inl rfl, trivial⟩
            · refine kw_aload_n C d_Md_readPiece_278 rfl ?_
              refine kw_iload_n C d_Md_readPiece_279 rfl ?_
              refine kw_iload_n C d_Md_readPiece_280 rfl ?_
              refine kw_callVi (cl' := 0) (sl' := 0) (As := [.int a0, .int x1.toInt32]) C (c_Md_readThins hl n ids ht a0 x1.toInt32 σ27) mi_Md_182 v_Md_readThins ⟨_, _, rfl⟩ ht ⟨Nat.le_of_ble_eq_true rfl, Nat.le_of_ble_eq_true rfl⟩ (Nat.le_of_ble_eq_true rfl) ⟨Nat.le_of_ble_eq_true rfl, Nat.le_of_ble_eq_true rfl⟩ ⟨rfl, rfl⟩ rfl d_Md_readPiece_281 (fun x28 σ29 => ?_)
              exact kw_zret C Ce rfl (by simp) (fun _ _ => rfl) (Nat.le_of_ble_eq_true rfl) (Nat.le_of_ble_eq_true rfl) rfl d_Md_readPiece_284
          · refine kw_iload_n C d_Md_readPiece_173 rfl ?_
            refine kw_iconst (v := 3) C d_Md_readPiece_174 (by decide) ?_
            refine kw_irem C d_Md_readPiece_175 ?_
            refine kw_j (α := Unit) (pcj := 210) (Lj := fun x31 => [some (.ref t), some (.int a0), none, none]) (stj := fun x31 => []) (fun x31 σ32 => ?_) (fun k30 hk30 => ?_)
            · refine kw_aload_n C d_Md_readPiece_210 rfl ?_
              refine kw_bipush (v := 8) C d_Md_readPiece_211 (by decide) ?_
              refine kw_iload_n C d_Md_readPiece_213 rfl ?_
              refine kw_callVi (cl' := 0) (sl' := 0) (As := [.int 8, .int a0]) C (c_Md_flaw hl n ids ht 8 a0 σ32) mi_Md_122 v_Md_flaw ⟨_, _, rfl⟩ ht ⟨Nat.le_of_ble_eq_true rfl, Nat.le_of_ble_eq_true rfl⟩ (Nat.le_of_ble_eq_true rfl) ⟨Nat.le_of_ble_eq_true rfl, Nat.le_of_ble_eq_true rfl⟩ ⟨rfl, rfl⟩ rfl d_Md_readPiece_214 (fun x33 σ34 => ?_)
              exact kw_zret C Ce rfl (by simp) (fun _ _ => rfl) (Nat.le_of_ble_eq_true rfl) (Nat.le_of_ble_eq_true rfl) rfl d_Md_readPiece_217
            · refine kw_if_ne (tgt := 210) C d_Md_readPiece_176 (by decide) ?_ ?_
              · exact kw_wk (hk30 () σ12) ⟨Or.inr rfl, Or.inr rfl, Or.inl rfl, Or.inl rfl, trivial⟩
              · refine kw_iload_n C d_Md_readPiece_179 rfl ?_
                refine kw_if_eq (tgt := 210) C d_Md_readPiece_180 (by decide) ?_ ?_
                · exact kw_wk (hk30 () σ12) ⟨Or.inr rfl, Or.inr rfl, Or.inl rfl, Or.inl rfl, trivial⟩
                · refine kw_iload_n C d_Md_readPiece_183 rfl ?_
                  refine kw_sipush (v := 768) C d_Md_readPiece_184 (by decide) ?_
                  refine kw_icmp_gt (tgt := 210) C d_Md_readPiece_187 (by decide) ?_ ?_
                  · exact kw_wk (hk30 () σ12) ⟨Or.inr rfl, Or.inr rfl, Or.inl rfl, Or.inl rfl, trivial⟩
                  · refine kw_aload_n C d_Md_readPiece_190 rfl ?_
                    refine kw_getI C fi_Md_170 (Or.inl rfl) ht d_Md_readPiece_191 ?_
                    refine kw_iconst (v := 3) C d_Md_readPiece_194 (by decide) ?_
                    refine kw_j (α := Unit) (pcj := 218) (Lj := fun x36 => [some (.ref t), some (.int a0), some (.int x1.toInt32), none]) (stj := fun x36 => []) (fun x36 σ37 => ?_) (fun k35 hk35 => ?_)
                    · refine kw_aload_n C d_Md_readPiece_218 rfl ?_
                      refine kw_iconst (v := 1) C d_Md_readPiece_219 (by decide) ?_
                      refine kw_putZ C fi_Md_126 rfl ht d_Md_readPiece_220 (fun σ38 => ?_)
                      refine kw_aload_n C d_Md_readPiece_223 rfl ?_
                      refine kw_iload_n C d_Md_readPiece_224 rfl ?_
                      refine kw_iconst (v := 3) C d_Md_readPiece_225 (by decide) ?_
                      refine kw_idiv C d_Md_readPiece_226 ?_
                      refine kw_putI C fi_Md_136 rfl ht d_Md_readPiece_227 (fun σ39 => ?_)
                      refine kw_iconst (v := 0) C d_Md_readPiece_230 (by decide) ?_
                      refine kw_istore_n (L' := [some (.ref t), some (.int a0), some (.int x1.toInt32), some (.int 0)]) C d_Md_readPiece_231 (by decide) rfl ?_
                      refine kw_wk (kw_l (α := Int32) (pc := 232) (Lj := fun x41 => [some (.ref t), some (.int a0), some (.int x1.toInt32), some (.int x41)]) (stj := fun x41 => []) (fun k40 hk40 x41 σ42 => ?_) n 0 σ39) ⟨Or.inr rfl, Or.inr rfl, Or.inr rfl, Or.inr rfl, trivial⟩
                      refine kw_iload_n C d_Md_readPiece_232 rfl ?_
                      refine kw_iload_n C d_Md_readPiece_233 rfl ?_
                      refine kw_icmp_ge (tgt := 259) C d_Md_readPiece_234 (by decide) ?_ ?_
                      · refine kw_goto (tgt := 285) C d_Md_readPiece_259 (by decide) ?_
                        exact kw_wk (hk13 () σ42) ⟨Or.inr rfl, Or.inr rfl, Or.inr rfl, Or.inl rfl, trivial⟩
                      · refine kw_aload_n C d_Md_readPiece_237 rfl ?_
                        refine kw_getR C fi_Md_27 rfl rfl ht d_Md_readPiece_238 (fun o43 ho43 => ?_)
                        refine kw_iload_n C d_Md_readPiece_241 rfl ?_
                        refine kw_aload_n C d_Md_readPiece_242 rfl ?_
                        refine kw_iload_n C d_Md_readPiece_243 rfl ?_
                        refine kw_bipush (v := 8) C d_Md_readPiece_244 (by decide) ?_
                        refine kw_iadd C d_Md_readPiece_246 ?_
                        refine kw_iload_n C d_Md_readPiece_247 rfl ?_
                        refine kw_iadd C d_Md_readPiece_248 ?_
                        refine kw_callVi (cl' := 0) (sl' := 0) (As := [.int ((a0 + 8) + x41)]) C (c_Md_at hl n ids ht ((a0 + 8) + x41) σ42) mi_Md_84 v_Md_at ⟨_, _, rfl⟩ ht ⟨Nat.le_of_ble_eq_true rfl, Nat.le_of_ble_eq_true rfl⟩ (Nat.le_of_ble_eq_true rfl) ⟨Nat.le_of_ble_eq_true rfl, Nat.le_of_ble_eq_true rfl⟩ ⟨rfl, rfl⟩ rfl d_Md_readPiece_249 (fun x44 σ45 => ?_)
                        refine kw_iast C ho43 d_Md_readPiece_252 (fun σ46 => ?_)
                        refine kw_iincL (L2 := fun x47 => [some (.ref t), some (.int a0), some (.int x1.toInt32), some (.int x47)]) C d_Md_readPiece_253 (by decide) rfl (fun _ => rfl) (fun x47 => ?_)
                        refine kw_goto (tgt := 232) C d_Md_readPiece_256 (by decide) ?_
                        exact kw_wk (hk40 x47 σ46) ⟨Or.inr rfl, Or.inr rfl, Or.inr rfl, Or.inr rfl, trivial⟩
                    · refine kw_icmp_ne (tgt := 218) C d_Md_readPiece_195 (by decide) ?_ ?_
                      · exact kw_wk (hk35 () σ12) ⟨Or.inr rfl, Or.inr rfl, Or.inr rfl, Or.inl rfl, trivial⟩
                      · refine kw_iload_n C d_Md_readPiece_198 rfl ?_
                        refine kw_iconst (v := 3) C d_Md_readPiece_199 (by decide) ?_
                        refine kw_idiv C d_Md_readPiece_200 ?_
                        refine kw_iconst (v := 1) C d_Md_readPiece_201 (by decide) ?_
                        refine kw_aload_n C d_Md_readPiece_202 rfl ?_
                        refine kw_getI C fi_Md_179 (Or.inl rfl) ht d_Md_readPiece_203 ?_
                        refine kw_ishl C d_Md_readPiece_206 ?_
                        refine kw_icmp_le (tgt := 218) C d_Md_readPiece_207 (by decide) ?_ ?_
                        · exact kw_wk (hk35 () σ12) ⟨Or.inr rfl, Or.inr rfl, Or.inr rfl, Or.inl rfl, trivial⟩
                        · exact kw_wk (hk30 () σ12) ⟨Or.inr rfl, Or.inr rfl, Or.inl rfl, Or.inl rfl, trivial⟩
      · refine kw_icmp_ne (tgt := 150) C d_Md_readPiece_143 (by decide) ?_ ?_
        · refine kw_aload_n C d_Md_readPiece_150 rfl ?_
          refine kw_getI C fi_Md_133 (Or.inl rfl) ht d_Md_readPiece_151 ?_
          exact kw_wk (hk7 (gS σ6 (64 * t + 42)) σ6) ⟨Or.inr rfl, Or.inr rfl, Or.inr rfl, Or.inl rfl, trivial⟩
        · refine kw_iconst (v := 2) C d_Md_readPiece_146 (by decide) ?_
          refine kw_goto (tgt := 154) C d_Md_readPiece_147 (by decide) ?_
          exact kw_wk (hk7 2 σ6) ⟨Or.inr rfl, Or.inr rfl, Or.inr rfl, Or.inl rfl, trivial⟩
    · refine kw_iload_n C d_Md_readPiece_64 rfl ?_
      refine kw_bipush (v := 8) C d_Md_readPiece_65 (by decide) ?_
      refine kw_iadd C d_Md_readPiece_67 ?_
      refine kw_leti (fun x48 => ?_)
      refine kw_istore_n (L' := [some (.ref t), some (.int a0), some (.int x1.toInt32), some (.int x48)]) C d_Md_readPiece_68 (by decide) rfl ?_
      refine kw_wk (kw_l (α := Int32) (pc := 69) (Lj := fun x50 => [some (.ref t), some (.int a0), some (.int x1.toInt32), some (.int x50)]) (stj := fun x50 => []) (fun k49 hk49 x50 σ51 => ?_) n x48 σ6) ⟨Or.inr rfl, Or.inr rfl, Or.inr rfl, Or.inr rfl, trivial⟩
      refine kw_iload_n C d_Md_readPiece_69 rfl ?_
      refine kw_iload_n C d_Md_readPiece_70 rfl ?_
      refine kw_bipush (v := 8) C d_Md_readPiece_71 (by decide) ?_
      refine kw_iadd C d_Md_readPiece_73 ?_
      refine kw_iload_n C d_Md_readPiece_74 rfl ?_
      refine kw_iadd C d_Md_readPiece_75 ?_
      refine kw_icmp_ge (tgt := 120) C d_Md_readPiece_76 (by decide) ?_ ?_
      · refine kw_aload_n C d_Md_readPiece_120 rfl ?_
        refine kw_iload_n C d_Md_readPiece_121 rfl ?_
        refine kw_bipush (v := 8) C d_Md_readPiece_122 (by decide) ?_
        refine kw_iadd C d_Md_readPiece_124 ?_
        refine kw_iload_n C d_Md_readPiece_125 rfl ?_
        refine kw_iadd C d_Md_readPiece_126 ?_
        refine kw_putI C fi_Md_176 rfl ht d_Md_readPiece_127 (fun σ52 => ?_)
        refine kw_aload_n C d_Md_readPiece_130 rfl ?_
        refine kw_iconst (v := 1) C d_Md_readPiece_131 (by decide) ?_
        refine kw_putI C fi_Md_133 rfl ht d_Md_readPiece_132 (fun σ53 => ?_)
        refine kw_iconst (v := 1) C d_Md_readPiece_135 (by decide) ?_
        exact kw_zret C Ce rfl (by simp) (fun _ _ => rfl) (Nat.le_of_ble_eq_true rfl) (Nat.le_of_ble_eq_true rfl) rfl d_Md_readPiece_136
      · refine kw_aload_n C d_Md_readPiece_79 rfl ?_
        refine kw_getR C fi_Md_33 rfl rfl ht d_Md_readPiece_80 (fun o54 ho54 => ?_)
        refine kw_aload_n C d_Md_readPiece_83 rfl ?_
        refine kw_getI C fi_Md_142 (Or.inl rfl) ht d_Md_readPiece_84 ?_
        refine kw_aload_n C d_Md_readPiece_87 rfl ?_
        refine kw_getR C fi_Md_8 rfl rfl ht d_Md_readPiece_88 (fun o55 ho55 => ?_)
        refine kw_iload_n C d_Md_readPiece_91 rfl ?_
        refine kw_bald C ho55 d_Md_readPiece_92 ?_
        refine kw_bast C ho54 d_Md_readPiece_93 (fun σ56 => ?_)
        refine kw_aload_n C d_Md_readPiece_94 rfl ?_
        refine kw_getR C fi_Md_36 rfl rfl ht d_Md_readPiece_95 (fun o57 ho57 => ?_)
        refine kw_aload_n C d_Md_readPiece_98 rfl ?_
        refine kw_getI C fi_Md_142 (Or.inl rfl) ht d_Md_readPiece_99 ?_
        refine kw_iload_n C d_Md_readPiece_102 rfl ?_
        refine kw_iast C ho57 d_Md_readPiece_103 (fun σ58 => ?_)
        refine kw_aload_n C d_Md_readPiece_104 rfl ?_
        refine kw_dup C d_Md_readPiece_105 rfl ?_
        refine kw_getI C fi_Md_142 (Or.inl rfl) ht d_Md_readPiece_106 ?_
        refine kw_iconst (v := 1) C d_Md_readPiece_109 (by decide) ?_
        refine kw_iadd C d_Md_readPiece_110 ?_
        refine kw_putI C fi_Md_142 rfl ht d_Md_readPiece_111 (fun σ59 => ?_)
        refine kw_iincL (L2 := fun x60 => [some (.ref t), some (.int a0), some (.int x1.toInt32), some (.int x60)]) C d_Md_readPiece_114 (by decide) rfl (fun _ => rfl) (fun x60 => ?_)
        refine kw_goto (tgt := 69) C d_Md_readPiece_117 (by decide) ?_
        exact kw_wk (hk49 x60 σ59) ⟨Or.inr rfl, Or.inr rfl, Or.inr rfl, Or.inr rfl, trivial⟩
  · refine kw_iload_n C d_Md_readPiece_23 rfl ?_
    refine kw_bipush (v := 13) C d_Md_readPiece_24 (by decide) ?_
    refine kw_j (α := Int32) (pcj := 47) (Lj := fun x62 => [none, none, none, none]) (stj := fun x62 => [.int x62]) (fun x62 σ63 => ?_) (fun k61 hk61 => ?_)
    · exact kw_zret C Ce rfl (by simp) (fun _ _ => rfl) (Nat.le_of_ble_eq_true rfl) (Nat.le_of_ble_eq_true rfl) rfl d_Md_readPiece_47
    · refine kw_icmp_ne (tgt := 40) C d_Md_readPiece_26 (by decide) ?_ ?_
      · refine kw_aload_n C d_Md_readPiece_40 rfl ?_
        refine kw_bipush (v := 8) C d_Md_readPiece_41 (by decide) ?_
        refine kw_iload_n C d_Md_readPiece_43 rfl ?_
        refine kw_callVi (cl' := 0) (sl' := 0) (As := [.int 8, .int a0]) C (c_Md_flaw hl n ids ht 8 a0 σ4) mi_Md_122 v_Md_flaw ⟨_, _, rfl⟩ ht ⟨Nat.le_of_ble_eq_true rfl, Nat.le_of_ble_eq_true rfl⟩ (Nat.le_of_ble_eq_true rfl) ⟨Nat.le_of_ble_eq_true rfl, Nat.le_of_ble_eq_true rfl⟩ ⟨rfl, rfl⟩ rfl d_Md_readPiece_44 (fun x64 σ65 => ?_)
        exact kw_wk (hk61 x64 σ65) ⟨Or.inl rfl, Or.inl rfl, Or.inl rfl, Or.inl rfl, trivial⟩
      · refine kw_aload_n C d_Md_readPiece_29 rfl ?_
        refine kw_iload_n C d_Md_readPiece_30 rfl ?_
        refine kw_bipush (v := 8) C d_Md_readPiece_31 (by decide) ?_
        refine kw_iadd C d_Md_readPiece_33 ?_
        refine kw_callVi (cl' := 0) (sl' := 0) (As := [.int (a0 + 8)]) C (c_Md_readHeader hl n ids ht (a0 + 8) σ4) mi_Md_173 v_Md_readHeader ⟨_, _, rfl⟩ ht ⟨Nat.le_of_ble_eq_true rfl, Nat.le_of_ble_eq_true rfl⟩ (Nat.le_of_ble_eq_true rfl) ⟨Nat.le_of_ble_eq_true rfl, Nat.le_of_ble_eq_true rfl⟩ ⟨rfl, rfl⟩ rfl d_Md_readPiece_34 (fun x66 σ67 => ?_)
        refine kw_goto (tgt := 47) C d_Md_readPiece_37 (by decide) ?_
        exact kw_wk (hk61 x66 σ67) ⟨Or.inl rfl, Or.inl rfl, Or.inl rfl, Or.inl rfl, trivial⟩
/-! Md_readFile -/
def rm_Md_readFile : Room := { frames := 4, cells := 0, slots := 0, locals := 86 }
def F_Md_readFile (n : Nat) (t : Nat) (σ : Mm) : Option (Int32 × Mm) :=
kf_l (α := Int32) n (fun k1 x2 σ3 =>
if 8 ≤ x2 then (
kf_z 0 <| kf_let (pS σ3 (64 * t + 40) 0) fun σ4 =>
kf_z 0 <| kf_let (pS σ4 (64 * t + 41) 0) fun σ5 =>
kf_let (pS σ5 (64 * t + 42) 0) fun σ6 =>
kf_let (pS σ6 (64 * t + 23) 0) fun σ7 =>
kf_let (pS σ7 (64 * t + 25) 0) fun σ8 =>
kf_let (pS σ8 (64 * t + 28) 0) fun σ9 =>
kf_l (α := Int32) n (fun k10 x11 σ12 =>
kf_c2 (F_Md_isPiece n t x11 σ12) fun x13 σ14 =>
kf_j (α := Unit) (fun x16 σ17 =>
kf_z 0 (some (0, σ17))) fun k15 =>
if x13 = 0 then (
k15 () σ14) else (
kf_c2 (F_Md_mayStand n t x11 σ14) fun x18 σ19 =>
if x18 = 0 then (
k15 () σ19) else (
kf_c2 (F_Md_readPiece n t x11 σ19) fun x20 σ21 =>
if x20 = 0 then (
k15 () σ21) else (
kf_c2 (F_Md_isType n t x11 73 69 78 68 σ21) fun x22 σ23 =>
kf_c2 (F_Md_number n t x11 σ23) fun x24 σ25 =>
kf_let (x11 + ((12 : Int32) + x24.toInt32) : Int32) fun x26 =>
if x22 = 0 then (
k10 x26 σ25) else (
kf_j (α := Int32) (fun x28 σ29 =>
kf_z x28 (some (x28, σ29))) fun k27 =>
kf_j (α := Unit) (fun x31 σ32 =>
k27 1 σ32) fun k30 =>
if x26 = (gS σ25 (64 * t + 2)) then (
k30 () σ25) else (
kf_c2 (F_Md_flaw n t 11 x26 σ25) fun x33 σ34 =>
if x33 = 0 then (
k27 0 σ34) else (
k30 () σ34))))))) 8 σ9) else (
kf_j (α := Int32) (fun x36 σ37 =>
kf_j (α := Unit) (fun x39 σ40 =>
kf_c2 (F_Md_flaw n t 1 x2 σ40) fun x41 σ42 =>
kf_z x41 (some (x41, σ42))) fun k38 =>
if (gS σ37 (64 * t + 2)) ≤ x2 then (
k38 () σ37) else (
kf_c2 (F_Md_at n t x2 σ37) fun x43 σ44 =>
if x43 = x36 then (
kf_let (x2 + Int32.ofInt 1) fun x45 =>
k1 x45 σ44) else (
k38 () σ44))) fun k35 =>
if x2 = 0 then (
k35 137 σ3) else (
if x2 = 1 then (
k35 80 σ3) else (
if x2 = 2 then (
k35 78 σ3) else (
if x2 = 3 then (
k35 71 σ3) else (
if x2 = 4 then (
k35 13 σ3) else (
if x2 = 5 then (
k35 10 σ3) else (
if x2 = 6 then (
k35 26 σ3) else (
k35 10 σ3))))))))) 0 σ
theorem d_Md_readFile_0 : decode prog_14_method_27_code 0 = .ok (.iconst 0, 1) := by decide +kernel
theorem d_Md_readFile_1 : decode prog_14_method_27_code 1 = .ok (.istore_n 1, 1) := by decide +kernel
theorem d_Md_readFile_2 : decode prog_14_method_27_code 2 = .ok (.iload_n 1, 1) := by decide +kernel
theorem d_Md_readFile_3 : decode prog_14_method_27_code 3 = .ok (.bipush 8, 2) := by decide +kernel
theorem d_Md_readFile_5 : decode prog_14_method_27_code 5 = .ok (.if_icmp .ge 107, 3) := by decide +kernel
theorem d_Md_readFile_8 : decode prog_14_method_27_code 8 = .ok (.iload_n 1, 1) := by decide +kernel
theorem d_Md_readFile_9 : decode prog_14_method_27_code 9 = .ok (.ifCond .ne 9, 3) := by decide +kernel
theorem d_Md_readFile_12 : decode prog_14_method_27_code 12 = .ok (.sipush 137, 3) := by decide +kernel
theorem d_Md_readFile_15 : decode prog_14_method_27_code 15 = .ok (.goto 66, 3) := by decide +kernel
theorem d_Md_readFile_18 : decode prog_14_method_27_code 18 = .ok (.iload_n 1, 1) := by decide +kernel
theorem d_Md_readFile_19 : decode prog_14_method_27_code 19 = .ok (.iconst 1, 1) := by decide +kernel
theorem d_Md_readFile_20 : decode prog_14_method_27_code 20 = .ok (.if_icmp .ne 8, 3) := by decide +kernel
theorem d_Md_readFile_23 : decode prog_14_method_27_code 23 = .ok (.bipush 80, 2) := by decide +kernel
theorem d_Md_readFile_25 : decode prog_14_method_27_code 25 = .ok (.goto 56, 3) := by decide +kernel
theorem d_Md_readFile_28 : decode prog_14_method_27_code 28 = .ok (.iload_n 1, 1) := by decide +kernel
theorem d_Md_readFile_29 : decode prog_14_method_27_code 29 = .ok (.iconst 2, 1) := by decide +kernel
theorem d_Md_readFile_30 : decode prog_14_method_27_code 30 = .ok (.if_icmp .ne 8, 3) := by decide +kernel
theorem d_Md_readFile_33 : decode prog_14_method_27_code 33 = .ok (.bipush 78, 2) := by decide +kernel
theorem d_Md_readFile_35 : decode prog_14_method_27_code 35 = .ok (.goto 46, 3) := by decide +kernel
theorem d_Md_readFile_38 : decode prog_14_method_27_code 38 = .ok (.iload_n 1, 1) := by decide +kernel
theorem d_Md_readFile_39 : decode prog_14_method_27_code 39 = .ok (.iconst 3, 1) := by decide +kernel
theorem d_Md_readFile_40 : decode prog_14_method_27_code 40 = .ok (.if_icmp .ne 8, 3) := by decide +kernel
theorem d_Md_readFile_43 : decode prog_14_method_27_code 43 = .ok (.bipush 71, 2) := by decide +kernel
theorem d_Md_readFile_45 : decode prog_14_method_27_code 45 = .ok (.goto 36, 3) := by decide +kernel
theorem d_Md_readFile_48 : decode prog_14_method_27_code 48 = .ok (.iload_n 1, 1) := by decide +kernel
theorem d_Md_readFile_49 : decode prog_14_method_27_code 49 = .ok (.iconst 4, 1) := by decide +kernel
theorem d_Md_readFile_50 : decode prog_14_method_27_code 50 = .ok (.if_icmp .ne 8, 3) := by decide +kernel
theorem d_Md_readFile_53 : decode prog_14_method_27_code 53 = .ok (.bipush 13, 2) := by decide +kernel
theorem d_Md_readFile_55 : decode prog_14_method_27_code 55 = .ok (.goto 26, 3) := by decide +kernel
theorem d_Md_readFile_58 : decode prog_14_method_27_code 58 = .ok (.iload_n 1, 1) := by decide +kernel
theorem d_Md_readFile_59 : decode prog_14_method_27_code 59 = .ok (.iconst 5, 1) := by decide +kernel
theorem d_Md_readFile_60 : decode prog_14_method_27_code 60 = .ok (.if_icmp .ne 8, 3) := by decide +kernel
theorem d_Md_readFile_63 : decode prog_14_method_27_code 63 = .ok (.bipush 10, 2) := by decide +kernel
theorem d_Md_readFile_65 : decode prog_14_method_27_code 65 = .ok (.goto 16, 3) := by decide +kernel
theorem d_Md_readFile_68 : decode prog_14_method_27_code 68 = .ok (.iload_n 1, 1) := by decide +kernel
theorem d_Md_readFile_69 : decode prog_14_method_27_code 69 = .ok (.bipush 6, 2) := by decide +kernel
theorem d_Md_readFile_71 : decode prog_14_method_27_code 71 = .ok (.if_icmp .ne 8, 3) := by decide +kernel
theorem d_Md_readFile_74 : decode prog_14_method_27_code 74 = .ok (.bipush 26, 2) := by decide +kernel
theorem d_Md_readFile_76 : decode prog_14_method_27_code 76 = .ok (.goto 5, 3) := by decide +kernel
theorem d_Md_readFile_79 : decode prog_14_method_27_code 79 = .ok (.bipush 10, 2) := by decide +kernel
theorem d_Md_readFile_81 : decode prog_14_method_27_code 81 = .ok (.istore_n 2, 1) := by decide +kernel
theorem d_Md_readFile_82 : decode prog_14_method_27_code 82 = .ok (.iload_n 1, 1) := by decide +kernel
theorem d_Md_readFile_83 : decode prog_14_method_27_code 83 = .ok (.aload_n 0, 1) := by decide +kernel
theorem d_Md_readFile_84 : decode prog_14_method_27_code 84 = .ok (.getfield 71, 3) := by decide +kernel
theorem d_Md_readFile_87 : decode prog_14_method_27_code 87 = .ok (.if_icmp .ge 12, 3) := by decide +kernel
theorem d_Md_readFile_90 : decode prog_14_method_27_code 90 = .ok (.aload_n 0, 1) := by decide +kernel
theorem d_Md_readFile_91 : decode prog_14_method_27_code 91 = .ok (.iload_n 1, 1) := by decide +kernel
theorem d_Md_readFile_92 : decode prog_14_method_27_code 92 = .ok (.invokevirtual 84, 3) := by decide +kernel
theorem d_Md_readFile_95 : decode prog_14_method_27_code 95 = .ok (.iload_n 2, 1) := by decide +kernel
theorem d_Md_readFile_96 : decode prog_14_method_27_code 96 = .ok (.if_icmp .eq 10, 3) := by decide +kernel
theorem d_Md_readFile_99 : decode prog_14_method_27_code 99 = .ok (.aload_n 0, 1) := by decide +kernel
theorem d_Md_readFile_100 : decode prog_14_method_27_code 100 = .ok (.iconst 1, 1) := by decide +kernel
theorem d_Md_readFile_101 : decode prog_14_method_27_code 101 = .ok (.iload_n 1, 1) := by decide +kernel
theorem d_Md_readFile_102 : decode prog_14_method_27_code 102 = .ok (.invokevirtual 122, 3) := by decide +kernel
theorem d_Md_readFile_105 : decode prog_14_method_27_code 105 = .ok (.ireturn, 1) := by decide +kernel
theorem d_Md_readFile_106 : decode prog_14_method_27_code 106 = .ok (.iinc 1 1, 3) := by decide +kernel
theorem d_Md_readFile_109 : decode prog_14_method_27_code 109 = .ok (.goto (-107), 3) := by decide +kernel
theorem d_Md_readFile_112 : decode prog_14_method_27_code 112 = .ok (.aload_n 0, 1) := by decide +kernel
theorem d_Md_readFile_113 : decode prog_14_method_27_code 113 = .ok (.iconst 0, 1) := by decide +kernel
theorem d_Md_readFile_114 : decode prog_14_method_27_code 114 = .ok (.putfield 126, 3) := by decide +kernel
theorem d_Md_readFile_117 : decode prog_14_method_27_code 117 = .ok (.aload_n 0, 1) := by decide +kernel
theorem d_Md_readFile_118 : decode prog_14_method_27_code 118 = .ok (.iconst 0, 1) := by decide +kernel
theorem d_Md_readFile_119 : decode prog_14_method_27_code 119 = .ok (.putfield 130, 3) := by decide +kernel
theorem d_Md_readFile_122 : decode prog_14_method_27_code 122 = .ok (.aload_n 0, 1) := by decide +kernel
theorem d_Md_readFile_123 : decode prog_14_method_27_code 123 = .ok (.iconst 0, 1) := by decide +kernel
theorem d_Md_readFile_124 : decode prog_14_method_27_code 124 = .ok (.putfield 133, 3) := by decide +kernel
theorem d_Md_readFile_127 : decode prog_14_method_27_code 127 = .ok (.aload_n 0, 1) := by decide +kernel
theorem d_Md_readFile_128 : decode prog_14_method_27_code 128 = .ok (.iconst 0, 1) := by decide +kernel
theorem d_Md_readFile_129 : decode prog_14_method_27_code 129 = .ok (.putfield 136, 3) := by decide +kernel
theorem d_Md_readFile_132 : decode prog_14_method_27_code 132 = .ok (.aload_n 0, 1) := by decide +kernel
theorem d_Md_readFile_133 : decode prog_14_method_27_code 133 = .ok (.iconst 0, 1) := by decide +kernel
theorem d_Md_readFile_134 : decode prog_14_method_27_code 134 = .ok (.putfield 139, 3) := by decide +kernel
theorem d_Md_readFile_137 : decode prog_14_method_27_code 137 = .ok (.aload_n 0, 1) := by decide +kernel
theorem d_Md_readFile_138 : decode prog_14_method_27_code 138 = .ok (.iconst 0, 1) := by decide +kernel
theorem d_Md_readFile_139 : decode prog_14_method_27_code 139 = .ok (.putfield 142, 3) := by decide +kernel
theorem d_Md_readFile_142 : decode prog_14_method_27_code 142 = .ok (.bipush 8, 2) := by decide +kernel
theorem d_Md_readFile_144 : decode prog_14_method_27_code 144 = .ok (.istore_n 1, 1) := by decide +kernel
theorem d_Md_readFile_145 : decode prog_14_method_27_code 145 = .ok (.aload_n 0, 1) := by decide +kernel
theorem d_Md_readFile_146 : decode prog_14_method_27_code 146 = .ok (.iload_n 1, 1) := by decide +kernel
theorem d_Md_readFile_147 : decode prog_14_method_27_code 147 = .ok (.invokevirtual 145, 3) := by decide +kernel
theorem d_Md_readFile_150 : decode prog_14_method_27_code 150 = .ok (.ifCond .eq 19, 3) := by decide +kernel
theorem d_Md_readFile_153 : decode prog_14_method_27_code 153 = .ok (.aload_n 0, 1) := by decide +kernel
theorem d_Md_readFile_154 : decode prog_14_method_27_code 154 = .ok (.iload_n 1, 1) := by decide +kernel
theorem d_Md_readFile_155 : decode prog_14_method_27_code 155 = .ok (.invokevirtual 149, 3) := by decide +kernel
theorem d_Md_readFile_158 : decode prog_14_method_27_code 158 = .ok (.ifCond .eq 11, 3) := by decide +kernel
theorem d_Md_readFile_161 : decode prog_14_method_27_code 161 = .ok (.aload_n 0, 1) := by decide +kernel
theorem d_Md_readFile_162 : decode prog_14_method_27_code 162 = .ok (.iload_n 1, 1) := by decide +kernel
theorem d_Md_readFile_163 : decode prog_14_method_27_code 163 = .ok (.invokevirtual 152, 3) := by decide +kernel
theorem d_Md_readFile_166 : decode prog_14_method_27_code 166 = .ok (.ifCond .ne 5, 3) := by decide +kernel
theorem d_Md_readFile_169 : decode prog_14_method_27_code 169 = .ok (.iconst 0, 1) := by decide +kernel
theorem d_Md_readFile_170 : decode prog_14_method_27_code 170 = .ok (.ireturn, 1) := by decide +kernel
theorem d_Md_readFile_171 : decode prog_14_method_27_code 171 = .ok (.aload_n 0, 1) := by decide +kernel
theorem d_Md_readFile_172 : decode prog_14_method_27_code 172 = .ok (.iload_n 1, 1) := by decide +kernel
theorem d_Md_readFile_173 : decode prog_14_method_27_code 173 = .ok (.bipush 73, 2) := by decide +kernel
theorem d_Md_readFile_175 : decode prog_14_method_27_code 175 = .ok (.bipush 69, 2) := by decide +kernel
theorem d_Md_readFile_177 : decode prog_14_method_27_code 177 = .ok (.bipush 78, 2) := by decide +kernel
theorem d_Md_readFile_179 : decode prog_14_method_27_code 179 = .ok (.bipush 68, 2) := by decide +kernel
theorem d_Md_readFile_181 : decode prog_14_method_27_code 181 = .ok (.invokevirtual 155, 3) := by decide +kernel
theorem d_Md_readFile_184 : decode prog_14_method_27_code 184 = .ok (.istore_n 2, 1) := by decide +kernel
theorem d_Md_readFile_185 : decode prog_14_method_27_code 185 = .ok (.iload_n 1, 1) := by decide +kernel
theorem d_Md_readFile_186 : decode prog_14_method_27_code 186 = .ok (.bipush 12, 2) := by decide +kernel
theorem d_Md_readFile_188 : decode prog_14_method_27_code 188 = .ok (.aload_n 0, 1) := by decide +kernel
theorem d_Md_readFile_189 : decode prog_14_method_27_code 189 = .ok (.iload_n 1, 1) := by decide +kernel
theorem d_Md_readFile_190 : decode prog_14_method_27_code 190 = .ok (.invokevirtual 159, 3) := by decide +kernel
theorem d_Md_readFile_193 : decode prog_14_method_27_code 193 = .ok (.l2i, 1) := by decide +kernel
theorem d_Md_readFile_194 : decode prog_14_method_27_code 194 = .ok (.iadd, 1) := by decide +kernel
theorem d_Md_readFile_195 : decode prog_14_method_27_code 195 = .ok (.iadd, 1) := by decide +kernel
theorem d_Md_readFile_196 : decode prog_14_method_27_code 196 = .ok (.istore_n 1, 1) := by decide +kernel
theorem d_Md_readFile_197 : decode prog_14_method_27_code 197 = .ok (.iload_n 2, 1) := by decide +kernel
theorem d_Md_readFile_198 : decode prog_14_method_27_code 198 = .ok (.ifCond .eq 27, 3) := by decide +kernel
theorem d_Md_readFile_201 : decode prog_14_method_27_code 201 = .ok (.iload_n 1, 1) := by decide +kernel
theorem d_Md_readFile_202 : decode prog_14_method_27_code 202 = .ok (.aload_n 0, 1) := by decide +kernel
theorem d_Md_readFile_203 : decode prog_14_method_27_code 203 = .ok (.getfield 71, 3) := by decide +kernel
theorem d_Md_readFile_206 : decode prog_14_method_27_code 206 = .ok (.if_icmp .eq 13, 3) := by decide +kernel
theorem d_Md_readFile_209 : decode prog_14_method_27_code 209 = .ok (.aload_n 0, 1) := by decide +kernel
theorem d_Md_readFile_210 : decode prog_14_method_27_code 210 = .ok (.bipush 11, 2) := by decide +kernel
theorem d_Md_readFile_212 : decode prog_14_method_27_code 212 = .ok (.iload_n 1, 1) := by decide +kernel
theorem d_Md_readFile_213 : decode prog_14_method_27_code 213 = .ok (.invokevirtual 122, 3) := by decide +kernel
theorem d_Md_readFile_216 : decode prog_14_method_27_code 216 = .ok (.ifCond .eq 7, 3) := by decide +kernel
theorem d_Md_readFile_219 : decode prog_14_method_27_code 219 = .ok (.iconst 1, 1) := by decide +kernel
theorem d_Md_readFile_220 : decode prog_14_method_27_code 220 = .ok (.goto 4, 3) := by decide +kernel
theorem d_Md_readFile_223 : decode prog_14_method_27_code 223 = .ok (.iconst 0, 1) := by decide +kernel
theorem d_Md_readFile_224 : decode prog_14_method_27_code 224 = .ok (.ireturn, 1) := by decide +kernel
theorem d_Md_readFile_225 : decode prog_14_method_27_code 225 = .ok (.goto (-80), 3) := by decide +kernel
set_option maxRecDepth 100000 in
set_option maxHeartbeats 4000000 in
theorem c_Md_readFile {l0 : Launch} (hl : l0.stackTraces = false) (n : Nat) (ids : List Nat) {t : Nat} (ht : mm_ok ids t 1 12)  (σ : Mm) : kw_C l0 y_Md_readFile (Cond.code y_Md_readFile prog_14_method_27_code 3 (some .boolean) :: kw_Ts) rm_Md_readFile kw_oi ids [] [.ref t] σ (F_Md_readFile n t σ) := by
  refine kw_start (L0 := [some (.ref t), none, none]) hl (by decide +kernel) (Nat.le_of_ble_eq_true rfl) rfl (fun Γ ad C Ce => ?_)
  unfold F_Md_readFile
  refine kw_iconst (v := 0) C d_Md_readFile_0 (by decide) ?_
  refine kw_istore_n (L' := [some (.ref t), some (.int 0), none]) C d_Md_readFile_1 (by decide) rfl ?_
  refine kw_wk (kw_l (α := Int32) (pc := 2) (Lj := fun x2 => [some (.ref t), some (.int x2), none]) (stj := fun x2 => []) (fun k1 hk1 x2 σ3 => ?_) n 0 σ) ⟨Or.inr rfl, Or.inr rfl, Or.inl rfl, trivial⟩
  refine kw_iload_n C d_Md_readFile_2 rfl ?_
  refine kw_bipush (v := 8) C d_Md_readFile_3 (by decide) ?_
  refine kw_icmp_ge (tgt := 112) C d_Md_readFile_5 (by decide) ?_ ?_
  · refine kw_aload_n C d_Md_readFile_112 rfl ?_
    refine kw_iconst (v := 0) C d_Md_readFile_113 (by decide) ?_
    refine kw_putZ C fi_Md_126 rfl ht d_Md_readFile_114 (fun σ4 => ?_)
    refine kw_aload_n C d_Md_readFile_117 rfl ?_
    refine kw_iconst (v := 0) C d_Md_readFile_118 (by decide) ?_
    refine kw_putZ C fi_Md_130 rfl ht d_Md_readFile_119 (fun σ5 => ?_)
    refine kw_aload_n C d_Md_readFile_122 rfl ?_
    refine kw_iconst (v := 0) C d_Md_readFile_123 (by decide) ?_
    refine kw_putI C fi_Md_133 rfl ht d_Md_readFile_124 (fun σ6 => ?_)
    refine kw_aload_n C d_Md_readFile_127 rfl ?_
    refine kw_iconst (v := 0) C d_Md_readFile_128 (by decide) ?_
    refine kw_putI C fi_Md_136 rfl ht d_Md_readFile_129 (fun σ7 => ?_)
    refine kw_aload_n C d_Md_readFile_132 rfl ?_
    refine kw_iconst (v := 0) C d_Md_readFile_133 (by decide) ?_
    refine kw_putI C fi_Md_139 rfl ht d_Md_readFile_134 (fun σ8 => ?_)
    refine kw_aload_n C d_Md_readFile_137 rfl ?_
    refine kw_iconst (v := 0) C d_Md_readFile_138 (by decide) ?_
    refine kw_putI C fi_Md_142 rfl ht d_Md_readFile_139 (fun σ9 => ?_)
    refine kw_bipush (v := 8) C d_Md_readFile_142 (by decide) ?_
    refine kw_istore_n (L' := [some (.ref t), some (.int 8), none]) C d_Md_readFile_144 (by decide) rfl ?_
    refine kw_wk (kw_l (α := Int32) (pc := 145) (Lj := fun x11 => [some (.ref t), some (.int x11), none]) (stj := fun x11 => []) (fun k10 hk10 x11 σ12 => ?_) n 8 σ9) ⟨Or.inr rfl, Or.inr rfl, Or.inl rfl, trivial⟩
    refine kw_aload_n C d_Md_readFile_145 rfl ?_
    refine kw_iload_n C d_Md_readFile_146 rfl ?_
    refine kw_callVi (cl' := 0) (sl' := 0) (As := [.int x11]) C (c_Md_isPiece hl n ids ht x11 σ12) mi_Md_145 v_Md_isPiece ⟨_, _, rfl⟩ ht ⟨Nat.le_of_ble_eq_true rfl, Nat.le_of_ble_eq_true rfl⟩ (Nat.le_of_ble_eq_true rfl) ⟨Nat.le_of_ble_eq_true rfl, Nat.le_of_ble_eq_true rfl⟩ ⟨rfl, rfl⟩ rfl d_Md_readFile_147 (fun x13 σ14 => ?_)
    refine kw_j (α := Unit) (pcj := 169) (Lj := fun x16 => [none, none, none]) (stj := fun x16 => []) (fun x16 σ17 => ?_) (fun k15 hk15 => ?_)
    · refine kw_iconst (v := 0) C d_Md_readFile_169 (by decide) ?_
      exact kw_zret C Ce rfl (by simp) (fun _ _ => rfl) (Nat.le_of_ble_eq_true rfl) (Nat.le_of_ble_eq_true rfl) rfl d_Md_readFile_170
    · refine kw_if_eq (tgt := 169) C d_Md_readFile_150 (by decide) ?_ ?_
      · exact kw_wk (hk15 () σ14) ⟨Or.inl rfl, Or.inl rfl, Or.inl rfl, trivial⟩
      · refine kw_aload_n C d_Md_readFile_153 rfl ?_
        refine kw_iload_n C d_Md_readFile_154 rfl ?_
        refine kw_callVi (cl' := 0) (sl' := 0) (As := [.int x11]) C (c_Md_mayStand hl n ids ht x11 σ14) mi_Md_149 v_Md_mayStand ⟨_, _, rfl⟩ ht ⟨Nat.le_of_ble_eq_true rfl, Nat.le_of_ble_eq_true rfl⟩ (Nat.le_of_ble_eq_true rfl) ⟨Nat.le_of_ble_eq_true rfl, Nat.le_of_ble_eq_true rfl⟩ ⟨rfl, rfl⟩ rfl d_Md_readFile_155 (fun x18 σ19 => ?_)
        refine kw_if_eq (tgt := 169) C d_Md_readFile_158 (by decide) ?_ ?_
        · exact kw_wk (hk15 () σ19) ⟨Or.inl rfl, Or.inl rfl, Or.inl rfl, trivial⟩
        · refine kw_aload_n C d_Md_readFile_161 rfl ?_
          refine kw_iload_n C d_Md_readFile_162 rfl ?_
          refine kw_callVi (cl' := 0) (sl' := 0) (As := [.int x11]) C (c_Md_readPiece hl n ids ht x11 σ19) mi_Md_152 v_Md_readPiece ⟨_, _, rfl⟩ ht ⟨Nat.le_of_ble_eq_true rfl, Nat.le_of_ble_eq_true rfl⟩ (Nat.le_of_ble_eq_true rfl) ⟨Nat.le_of_ble_eq_true rfl, Nat.le_of_ble_eq_true rfl⟩ ⟨rfl, rfl⟩ rfl d_Md_readFile_163 (fun x20 σ21 => ?_)
          refine kw_if_ne (tgt := 171) C d_Md_readFile_166 (by decide) ?_ ?_
          · refine kw_aload_n C d_Md_readFile_171 rfl ?_
            refine kw_iload_n C d_Md_readFile_172 rfl ?_
            refine kw_bipush (v := 73) C d_Md_readFile_173 (by decide) ?_
            refine kw_bipush (v := 69) C d_Md_readFile_175 (by decide) ?_
            refine kw_bipush (v := 78) C d_Md_readFile_177 (by decide) ?_
            refine kw_bipush (v := 68) C d_Md_readFile_179 (by decide) ?_
            refine kw_callVi (cl' := 0) (sl' := 0) (As := [.int x11, .int 73, .int 69, .int 78, .int 68]) C (c_Md_isType hl n ids ht x11 73 69 78 68 σ21) mi_Md_155 v_Md_isType ⟨_, _, rfl⟩ ht ⟨Nat.le_of_ble_eq_true rfl, Nat.le_of_ble_eq_true rfl⟩ (Nat.le_of_ble_eq_true rfl) ⟨Nat.le_of_ble_eq_true rfl, Nat.le_of_ble_eq_true rfl⟩ ⟨rfl, rfl⟩ rfl d_Md_readFile_181 (fun x22 σ23 => ?_)
            refine kw_istore_n (L' := [some (.ref t), some (.int x11), some (.int x22)]) C d_Md_readFile_184 (by decide) rfl ?_
            refine kw_iload_n C d_Md_readFile_185 rfl ?_
            refine kw_bipush (v := 12) C d_Md_readFile_186 (by decide) ?_
            refine kw_aload_n C d_Md_readFile_188 rfl ?_
            refine kw_iload_n C d_Md_readFile_189 rfl ?_
            refine kw_callVl (cl' := 0) (sl' := 0) (As := [.int x11]) C (c_Md_number hl n ids ht x11 σ23) mi_Md_159 v_Md_number ⟨_, _, rfl⟩ ht ⟨Nat.le_of_ble_eq_true rfl, Nat.le_of_ble_eq_true rfl⟩ (Nat.le_of_ble_eq_true rfl) ⟨Nat.le_of_ble_eq_true rfl, Nat.le_of_ble_eq_true rfl⟩ ⟨rfl, rfl⟩ rfl d_Md_readFile_190 (fun x24 σ25 => ?_)
            refine kw_l2i C d_Md_readFile_193 ?_
            refine kw_iadd C d_Md_readFile_194 ?_
            refine kw_iadd C d_Md_readFile_195 ?_
            refine kw_leti (fun x26 => ?_)
            refine kw_istore_n (L' := [some (.ref t), some (.int x26), some (.int x22)]) C d_Md_readFile_196 (by decide) rfl ?_
            refine kw_iload_n C d_Md_readFile_197 rfl ?_
            refine kw_if_eq (tgt := 225) C d_Md_readFile_198 (by decide) ?_ ?_
            · refine kw_goto (tgt := 145) C d_Md_readFile_225 (by decide) ?_
              exact kw_wk (hk10 x26 σ25) ⟨Or.inr rfl, Or.inr rfl, Or.inl rfl, trivial⟩
            · refine kw_iload_n C d_Md_readFile_201 rfl ?_
              refine kw_aload_n C d_Md_readFile_202 rfl ?_
              refine kw_getI C fi_Md_71 (Or.inl rfl) ht d_Md_readFile_203 ?_
              refine kw_j (α := Int32) (pcj := 224) (Lj := fun x28 => [none, none, none]) (stj := fun x28 => [.int x28]) (fun x28 σ29 => ?_) (fun k27 hk27 => ?_)
              · exact kw_zret C Ce rfl (by simp) (fun _ _ => rfl) (Nat.le_of_ble_eq_true rfl) (Nat.le_of_ble_eq_true rfl) rfl d_Md_readFile_224
              · refine kw_j (α := Unit) (pcj := 219) (Lj := fun x31 => [none, none, none]) (stj := fun x31 => []) (fun x31 σ32 => ?_) (fun k30 hk30 => ?_)
                · refine kw_iconst (v := 1) C d_Md_readFile_219 (by decide) ?_
                  refine kw_goto (tgt := 224) C d_Md_readFile_220 (by decide) ?_
                  exact kw_wk (hk27 1 σ32) ⟨Or.inl rfl, Or.inl rfl, Or.inl rfl, trivial⟩
                · refine kw_icmp_eq (tgt := 219) C d_Md_readFile_206 (by decide) ?_ ?_
                  · exact kw_wk (hk30 () σ25) ⟨Or.inl rfl, Or.inl rfl, Or.inl rfl, trivial⟩
                  · refine kw_aload_n C d_Md_readFile_209 rfl ?_
                    refine kw_bipush (v := 11) C d_Md_readFile_210 (by decide) ?_
                    refine kw_iload_n C d_Md_readFile_212 rfl ?_
                    refine kw_callVi (cl' := 0) (sl' := 0) (As := [.int 11, .int x26]) C (c_Md_flaw hl n ids ht 11 x26 σ25) mi_Md_122 v_Md_flaw ⟨_, _, rfl⟩ ht ⟨Nat.le_of_ble_eq_true rfl, Nat.le_of_ble_eq_true rfl⟩ (Nat.le_of_ble_eq_true rfl) ⟨Nat.le_of_ble_eq_true rfl, Nat.le_of_ble_eq_true rfl⟩ ⟨rfl, rfl⟩ rfl d_Md_readFile_213 (fun x33 σ34 => ?_)
                    refine kw_if_eq (tgt := 223) C d_Md_readFile_216 (by decide) ?_ ?_
                    · refine kw_iconst (v := 0) C d_Md_readFile_223 (by decide) ?_
                      exact kw_wk (hk27 0 σ34) ⟨Or.inl rfl, Or.inl rfl, Or.inl rfl, trivial⟩
                    · exact kw_wk (hk30 () σ34) ⟨Or.inl rfl, Or.inl rfl, Or.inl rfl, trivial⟩
          · exact kw_wk (hk15 () σ21) ⟨Or.inl rfl, Or.inl rfl, Or.inl rfl, trivial⟩
  · refine kw_iload_n C d_Md_readFile_8 rfl ?_
    refine kw_j (α := Int32) (pcj := 81) (Lj := fun x36 => [some (.ref t), some (.int x2), none]) (stj := fun x36 => [.int x36]) (fun x36 σ37 => ?_) (fun k35 hk35 => ?_)
    · refine kw_istore_n (L' := [some (.ref t), some (.int x2), some (.int x36)]) C d_Md_readFile_81 (by decide) rfl ?_
      refine kw_iload_n C d_Md_readFile_82 rfl ?_
      refine kw_aload_n C d_Md_readFile_83 rfl ?_
      refine kw_getI C fi_Md_71 (Or.inl rfl) ht d_Md_readFile_84 ?_
      refine kw_j (α := Unit) (pcj := 99) (Lj := fun x39 => [some (.ref t), some (.int x2), none]) (stj := fun x39 => []) (fun x39 σ40 => ?_) (fun k38 hk38 => ?_)
      · refine kw_aload_n C d_Md_readFile_99 rfl ?_
        refine kw_iconst (v := 1) C d_Md_readFile_100 (by decide) ?_
        refine kw_iload_n C d_Md_readFile_101 rfl ?_
        refine kw_callVi (cl' := 0) (sl' := 0) (As := [.int 1, .int x2]) C (c_Md_flaw hl n ids ht 1 x2 σ40) mi_Md_122 v_Md_flaw ⟨_, _, rfl⟩ ht ⟨Nat.le_of_ble_eq_true rfl, Nat.le_of_ble_eq_true rfl⟩ (Nat.le_of_ble_eq_true rfl) ⟨Nat.le_of_ble_eq_true rfl, Nat.le_of_ble_eq_true rfl⟩ ⟨rfl, rfl⟩ rfl d_Md_readFile_102 (fun x41 σ42 => ?_)
        exact kw_zret C Ce rfl (by simp) (fun _ _ => rfl) (Nat.le_of_ble_eq_true rfl) (Nat.le_of_ble_eq_true rfl) rfl d_Md_readFile_105
      · refine kw_icmp_ge (tgt := 99) C d_Md_readFile_87 (by decide) ?_ ?_
        · exact kw_wk (hk38 () σ37) ⟨Or.inr rfl, Or.inr rfl, Or.inl rfl, trivial⟩
        · refine kw_aload_n C d_Md_readFile_90 rfl ?_
          refine kw_iload_n C d_Md_readFile_91 rfl ?_
          refine kw_callVi (cl' := 0) (sl' := 0) (As := [.int x2]) C (c_Md_at hl n ids ht x2 σ37) mi_Md_84 v_Md_at ⟨_, _, rfl⟩ ht ⟨Nat.le_of_ble_eq_true rfl, Nat.le_of_ble_eq_true rfl⟩ (Nat.le_of_ble_eq_true rfl) ⟨Nat.le_of_ble_eq_true rfl, Nat.le_of_ble_eq_true rfl⟩ ⟨rfl, rfl⟩ rfl d_Md_readFile_92 (fun x43 σ44 => ?_)
          refine kw_iload_n C d_Md_readFile_95 rfl ?_
          refine kw_icmp_eq (tgt := 106) C d_Md_readFile_96 (by decide) ?_ ?_
          · refine kw_iincL (L2 := fun x45 => [some (.ref t), some (.int x45), some (.int x36)]) C d_Md_readFile_106 (by decide) rfl (fun _ => rfl) (fun x45 => ?_)
            refine kw_goto (tgt := 2) C d_Md_readFile_109 (by decide) ?_
            exact kw_wk (hk1 x45 σ44) ⟨Or.inr rfl, Or.inr rfl, Or.inl rfl, trivial⟩
          · exact kw_wk (hk38 () σ44) ⟨Or.inr rfl, Or.inr rfl, Or.inl rfl, trivial⟩
    · refine kw_if_ne (tgt := 18) C d_Md_readFile_9 (by decide) ?_ ?_
      · refine kw_iload_n C d_Md_readFile_18 rfl ?_
        refine kw_iconst (v := 1) C d_Md_readFile_19 (by decide) ?_
        refine kw_icmp_ne (tgt := 28) C d_Md_readFile_20 (by decide) ?_ ?_
        · refine kw_iload_n C d_Md_readFile_28 rfl ?_
          refine kw_iconst (v := 2) C d_Md_readFile_29 (by decide) ?_
          refine kw_icmp_ne (tgt := 38) C d_Md_readFile_30 (by decide) ?_ ?_
          · refine kw_iload_n C d_Md_readFile_38 rfl ?_
            refine kw_iconst (v := 3) C d_Md_readFile_39 (by decide) ?_
            refine kw_icmp_ne (tgt := 48) C d_Md_readFile_40 (by decide) ?_ ?_
            · refine kw_iload_n C d_Md_readFile_48 rfl ?_
              refine kw_iconst (v := 4) C d_Md_readFile_49 (by decide) ?_
              refine kw_icmp_ne (tgt := 58) C d_Md_readFile_50 (by decide) ?_ ?_
              · refine kw_iload_n C d_Md_readFile_58 rfl ?_
                refine kw_iconst (v := 5) C d_Md_readFile_59 (by decide) ?_
                refine kw_icmp_ne (tgt := 68) C d_Md_readFile_60 (by decide) ?_ ?_
                · refine kw_iload_n C d_Md_readFile_68 rfl ?_
                  refine kw_bipush (v := 6) C d_Md_readFile_69 (by decide) ?_
                  refine kw_icmp_ne (tgt := 79) C d_Md_readFile_71 (by decide) ?_ ?_
                  · refine kw_bipush (v := 10) C d_Md_readFile_79 (by decide) ?_
                    exact kw_wk (hk35 10 σ3) ⟨Or.inr rfl, Or.inr rfl, Or.inl rfl, trivial⟩
                  · refine kw_bipush (v := 26) C d_Md_readFile_74 (by decide) ?_
                    refine kw_goto (tgt := 81) C d_Md_readFile_76 (by decide) ?_
                    exact kw_wk (hk35 26 σ3) ⟨Or.inr rfl, Or.inr rfl, Or.inl rfl, trivial⟩
                · refine kw_bipush (v := 10) C d_Md_readFile_63 (by decide) ?_
                  refine kw_goto (tgt := 81) C d_Md_readFile_65 (by decide) ?_
                  exact kw_wk (hk35 10 σ3) ⟨Or.inr rfl, Or.inr rfl, Or.inl rfl, trivial⟩
              · refine kw_bipush (v := 13) C d_Md_readFile_53 (by decide) ?_
                refine kw_goto (tgt := 81) C d_Md_readFile_55 (by decide) ?_
                exact kw_wk (hk35 13 σ3) ⟨Or.inr rfl, Or.inr rfl, Or.inl rfl, trivial⟩
            · refine kw_bipush (v := 71) C d_Md_readFile_43 (by decide) ?_
              refine kw_goto (tgt := 81) C d_Md_readFile_45 (by decide) ?_
              exact kw_wk (hk35 71 σ3) ⟨Or.inr rfl, Or.inr rfl, Or.inl rfl, trivial⟩
          · refine kw_bipush (v := 78) C d_Md_readFile_33 (by decide) ?_
            refine kw_goto (tgt := 81) C d_Md_readFile_35 (by decide) ?_
            exact kw_wk (hk35 78 σ3) ⟨Or.inr rfl, Or.inr rfl, Or.inl rfl, trivial⟩
        · refine kw_bipush (v := 80) C d_Md_readFile_23 (by decide) ?_
          refine kw_goto (tgt := 81) C d_Md_readFile_25 (by decide) ?_
          exact kw_wk (hk35 80 σ3) ⟨Or.inr rfl, Or.inr rfl, Or.inl rfl, trivial⟩
      · refine kw_sipush (v := 137) C d_Md_readFile_12 (by decide) ?_
        refine kw_goto (tgt := 81) C d_Md_readFile_15 (by decide) ?_
        exact kw_wk (hk35 137 σ3) ⟨Or.inr rfl, Or.inr rfl, Or.inl rfl, trivial⟩
/-! Md_placeOf -/
def rm_Md_placeOf : Room := { frames := 0, cells := 0, slots := 0, locals := 0 }
def F_Md_placeOf (n : Nat) (t : Nat) (a0 : Int64) (σ : Mm) : Option (Int32 × Mm) :=
kf_nzl 8 <|
kf_j (α := Int32) (fun x2 σ3 =>
some (x2, σ3)) fun k1 =>
if 0 ≤ (lg_cmp (a0 / 8) ((gS σ (64 * t + 28)).toInt64)) then (
k1 (gS σ (64 * t + 29)) σ) else (
Option.bind (gR σ (64 * t + 27)) fun o4 =>
kf_nzl 8 <|
kf_let ((a0 / 8).toInt32 : Int32) fun x5 =>
kf_in x5 (mm_kd o4).2.2 <|
k1 (gB σ o4 x5.toNatClampNeg) σ)
theorem d_Md_placeOf_0 : decode prog_14_method_33_code 0 = .ok (.lload_n 1, 1) := by decide +kernel
theorem d_Md_placeOf_1 : decode prog_14_method_33_code 1 = .ok (.ldc2_w 199, 3) := by decide +kernel
theorem d_Md_placeOf_4 : decode prog_14_method_33_code 4 = .ok (.ldiv, 1) := by decide +kernel
theorem d_Md_placeOf_5 : decode prog_14_method_33_code 5 = .ok (.aload_n 0, 1) := by decide +kernel
theorem d_Md_placeOf_6 : decode prog_14_method_33_code 6 = .ok (.getfield 142, 3) := by decide +kernel
theorem d_Md_placeOf_9 : decode prog_14_method_33_code 9 = .ok (.i2l, 1) := by decide +kernel
theorem d_Md_placeOf_10 : decode prog_14_method_33_code 10 = .ok (.lcmp, 1) := by decide +kernel
theorem d_Md_placeOf_11 : decode prog_14_method_33_code 11 = .ok (.ifCond .ge 17, 3) := by decide +kernel
theorem d_Md_placeOf_14 : decode prog_14_method_33_code 14 = .ok (.aload_n 0, 1) := by decide +kernel
theorem d_Md_placeOf_15 : decode prog_14_method_33_code 15 = .ok (.getfield 36, 3) := by decide +kernel
theorem d_Md_placeOf_18 : decode prog_14_method_33_code 18 = .ok (.lload_n 1, 1) := by decide +kernel
theorem d_Md_placeOf_19 : decode prog_14_method_33_code 19 = .ok (.ldc2_w 199, 3) := by decide +kernel
theorem d_Md_placeOf_22 : decode prog_14_method_33_code 22 = .ok (.ldiv, 1) := by decide +kernel
theorem d_Md_placeOf_23 : decode prog_14_method_33_code 23 = .ok (.l2i, 1) := by decide +kernel
theorem d_Md_placeOf_24 : decode prog_14_method_33_code 24 = .ok (.iaload, 1) := by decide +kernel
theorem d_Md_placeOf_25 : decode prog_14_method_33_code 25 = .ok (.goto 7, 3) := by decide +kernel
theorem d_Md_placeOf_28 : decode prog_14_method_33_code 28 = .ok (.aload_n 0, 1) := by decide +kernel
theorem d_Md_placeOf_29 : decode prog_14_method_33_code 29 = .ok (.getfield 176, 3) := by decide +kernel
theorem d_Md_placeOf_32 : decode prog_14_method_33_code 32 = .ok (.ireturn, 1) := by decide +kernel
set_option maxRecDepth 100000 in
set_option maxHeartbeats 4000000 in
theorem c_Md_placeOf {l0 : Launch} (hl : l0.stackTraces = false) (n : Nat) (ids : List Nat) {t : Nat} (ht : mm_ok ids t 1 12) (a0 : Int64) (σ : Mm) : kw_C l0 y_Md_placeOf (Cond.code y_Md_placeOf prog_14_method_33_code 3 (some .int) :: kw_Ts) rm_Md_placeOf kw_oi ids [] [.ref t, .long a0] σ (F_Md_placeOf n t a0 σ) := by
  refine kw_start (L0 := [some (.ref t), some (.long a0), none]) hl (by decide +kernel) (Nat.le_of_ble_eq_true rfl) rfl (fun Γ ad C Ce => ?_)
  unfold F_Md_placeOf
  refine kw_lload_n C d_Md_placeOf_0 rfl ?_
  refine kw_ldc2 (v := 8) C d_Md_placeOf_1 k_Md_199 ?_
  refine kw_ldiv C d_Md_placeOf_4 ?_
  refine kw_aload_n C d_Md_placeOf_5 rfl ?_
  refine kw_getI C fi_Md_142 (Or.inl rfl) ht d_Md_placeOf_6 ?_
  refine kw_i2l C d_Md_placeOf_9 ?_
  refine kw_lcmp C d_Md_placeOf_10 ?_
  refine kw_j (α := Int32) (pcj := 32) (Lj := fun x2 => [none, none, none]) (stj := fun x2 => [.int x2]) (fun x2 σ3 => ?_) (fun k1 hk1 => ?_)
  · exact kw_iret C Ce rfl (by simp) (fun _ _ => rfl) (Nat.le_of_ble_eq_true rfl) (Nat.le_of_ble_eq_true rfl) rfl d_Md_placeOf_32
  · refine kw_if_ge (tgt := 28) C d_Md_placeOf_11 (by decide) ?_ ?_
    · refine kw_aload_n C d_Md_placeOf_28 rfl ?_
      refine kw_getI C fi_Md_176 (Or.inl rfl) ht d_Md_placeOf_29 ?_
      exact kw_wk (hk1 (gS σ (64 * t + 29)) σ) ⟨Or.inl rfl, Or.inl rfl, Or.inl rfl, trivial⟩
    · refine kw_aload_n C d_Md_placeOf_14 rfl ?_
      refine kw_getR C fi_Md_36 rfl rfl ht d_Md_placeOf_15 (fun o4 ho4 => ?_)
      refine kw_lload_n C d_Md_placeOf_18 rfl ?_
      refine kw_ldc2 (v := 8) C d_Md_placeOf_19 k_Md_199 ?_
      refine kw_ldiv C d_Md_placeOf_22 ?_
      refine kw_l2i C d_Md_placeOf_23 ?_
      refine kw_leti (fun x5 => ?_)
      refine kw_iald C (Or.inl ⟨ho4.1, ho4.2.1⟩) d_Md_placeOf_24 ?_
      refine kw_goto (tgt := 32) C d_Md_placeOf_25 (by decide) ?_
      exact kw_wk (hk1 (gB σ o4 x5.toNatClampNeg) σ) ⟨Or.inl rfl, Or.inl rfl, Or.inl rfl, trivial⟩
/-! Md_hasBits -/
def rm_Md_hasBits : Room := { frames := 1, cells := 0, slots := 0, locals := 22 }
def F_Md_hasBits (n : Nat) (t : Nat) (a0 : Int32) (σ : Mm) : Option (Int32 × Mm) :=
kf_j (α := Int32) (fun x2 σ3 =>
kf_z x2 (some (x2, σ3))) fun k1 =>
kf_j (α := Unit) (fun x5 σ6 =>
k1 1 σ6) fun k4 =>
if (lg_cmp ((gJ σ (64 * t + 43)) + a0.toInt64) ((8 : Int64) * ((gS σ (64 * t + 28)).toInt64))) ≤ 0 then (
k4 () σ) else (
kf_c2 (F_Md_flaw n t 20 (gS σ (64 * t + 29)) σ) fun x7 σ8 =>
if x7 = 0 then (
k1 0 σ8) else (
k4 () σ8))
theorem d_Md_hasBits_0 : decode prog_14_method_34_code 0 = .ok (.aload_n 0, 1) := by decide +kernel
theorem d_Md_hasBits_1 : decode prog_14_method_34_code 1 = .ok (.getfield 201, 3) := by decide +kernel
theorem d_Md_hasBits_4 : decode prog_14_method_34_code 4 = .ok (.iload_n 1, 1) := by decide +kernel
theorem d_Md_hasBits_5 : decode prog_14_method_34_code 5 = .ok (.i2l, 1) := by decide +kernel
theorem d_Md_hasBits_6 : decode prog_14_method_34_code 6 = .ok (.ladd, 1) := by decide +kernel
theorem d_Md_hasBits_7 : decode prog_14_method_34_code 7 = .ok (.ldc2_w 199, 3) := by decide +kernel
theorem d_Md_hasBits_10 : decode prog_14_method_34_code 10 = .ok (.aload_n 0, 1) := by decide +kernel
theorem d_Md_hasBits_11 : decode prog_14_method_34_code 11 = .ok (.getfield 142, 3) := by decide +kernel
theorem d_Md_hasBits_14 : decode prog_14_method_34_code 14 = .ok (.i2l, 1) := by decide +kernel
theorem d_Md_hasBits_15 : decode prog_14_method_34_code 15 = .ok (.lmul, 1) := by decide +kernel
theorem d_Md_hasBits_16 : decode prog_14_method_34_code 16 = .ok (.lcmp, 1) := by decide +kernel
theorem d_Md_hasBits_17 : decode prog_14_method_34_code 17 = .ok (.ifCond .le 16, 3) := by decide +kernel
theorem d_Md_hasBits_20 : decode prog_14_method_34_code 20 = .ok (.aload_n 0, 1) := by decide +kernel
theorem d_Md_hasBits_21 : decode prog_14_method_34_code 21 = .ok (.bipush 20, 2) := by decide +kernel
theorem d_Md_hasBits_23 : decode prog_14_method_34_code 23 = .ok (.aload_n 0, 1) := by decide +kernel
theorem d_Md_hasBits_24 : decode prog_14_method_34_code 24 = .ok (.getfield 176, 3) := by decide +kernel
theorem d_Md_hasBits_27 : decode prog_14_method_34_code 27 = .ok (.invokevirtual 122, 3) := by decide +kernel
theorem d_Md_hasBits_30 : decode prog_14_method_34_code 30 = .ok (.ifCond .eq 7, 3) := by decide +kernel
theorem d_Md_hasBits_33 : decode prog_14_method_34_code 33 = .ok (.iconst 1, 1) := by decide +kernel
theorem d_Md_hasBits_34 : decode prog_14_method_34_code 34 = .ok (.goto 4, 3) := by decide +kernel
theorem d_Md_hasBits_37 : decode prog_14_method_34_code 37 = .ok (.iconst 0, 1) := by decide +kernel
theorem d_Md_hasBits_38 : decode prog_14_method_34_code 38 = .ok (.ireturn, 1) := by decide +kernel
set_option maxRecDepth 100000 in
set_option maxHeartbeats 4000000 in
theorem c_Md_hasBits {l0 : Launch} (hl : l0.stackTraces = false) (n : Nat) (ids : List Nat) {t : Nat} (ht : mm_ok ids t 1 12) (a0 : Int32) (σ : Mm) : kw_C l0 y_Md_hasBits (Cond.code y_Md_hasBits prog_14_method_34_code 2 (some .boolean) :: kw_Ts) rm_Md_hasBits kw_oi ids [] [.ref t, .int a0] σ (F_Md_hasBits n t a0 σ) := by
  refine kw_start (L0 := [some (.ref t), some (.int a0)]) hl (by decide +kernel) (Nat.le_of_ble_eq_true rfl) rfl (fun Γ ad C Ce => ?_)
  unfold F_Md_hasBits
  refine kw_aload_n C d_Md_hasBits_0 rfl ?_
  refine kw_getJ C fi_Md_201 rfl ht d_Md_hasBits_1 ?_
  refine kw_iload_n C d_Md_hasBits_4 rfl ?_
  refine kw_i2l C d_Md_hasBits_5 ?_
  refine kw_ladd C d_Md_hasBits_6 ?_
  refine kw_ldc2 (v := 8) C d_Md_hasBits_7 k_Md_199 ?_
  refine kw_aload_n C d_Md_hasBits_10 rfl ?_
  refine kw_getI C fi_Md_142 (Or.inl rfl) ht d_Md_hasBits_11 ?_
  refine kw_i2l C d_Md_hasBits_14 ?_
  refine kw_lmul C d_Md_hasBits_15 ?_
  refine kw_lcmp C d_Md_hasBits_16 ?_
  refine kw_j (α := Int32) (pcj := 38) (Lj := fun x2 => [none, none]) (stj := fun x2 => [.int x2]) (fun x2 σ3 => ?_) (fun k1 hk1 => ?_)
  · exact kw_zret C Ce rfl (by simp) (fun _ _ => rfl) (Nat.le_of_ble_eq_true rfl) (Nat.le_of_ble_eq_true rfl) rfl d_Md_hasBits_38
  · refine kw_j (α := Unit) (pcj := 33) (Lj := fun x5 => [none, none]) (stj := fun x5 => []) (fun x5 σ6 => ?_) (fun k4 hk4 => ?_)
    · refine kw_iconst (v := 1) C d_Md_hasBits_33 (by decide) ?_
      refine kw_goto (tgt := 38) C d_Md_hasBits_34 (by decide) ?_
      exact kw_wk (hk1 1 σ6) ⟨Or.inl rfl, Or.inl rfl, trivial⟩
    · refine kw_if_le (tgt := 33) C d_Md_hasBits_17 (by decide) ?_ ?_
      · exact kw_wk (hk4 () σ) ⟨Or.inl rfl, Or.inl rfl, trivial⟩
      · refine kw_aload_n C d_Md_hasBits_20 rfl ?_
        refine kw_bipush (v := 20) C d_Md_hasBits_21 (by decide) ?_
        refine kw_aload_n C d_Md_hasBits_23 rfl ?_
        refine kw_getI C fi_Md_176 (Or.inl rfl) ht d_Md_hasBits_24 ?_
        refine kw_callVi (cl' := 0) (sl' := 0) (As := [.int 20, .int (gS σ (64 * t + 29))]) C (c_Md_flaw hl n ids ht 20 (gS σ (64 * t + 29)) σ) mi_Md_122 v_Md_flaw ⟨_, _, rfl⟩ ht ⟨Nat.le_of_ble_eq_true rfl, Nat.le_of_ble_eq_true rfl⟩ (Nat.le_of_ble_eq_true rfl) ⟨Nat.le_of_ble_eq_true rfl, Nat.le_of_ble_eq_true rfl⟩ ⟨rfl, rfl⟩ rfl d_Md_hasBits_27 (fun x7 σ8 => ?_)
        refine kw_if_eq (tgt := 37) C d_Md_hasBits_30 (by decide) ?_ ?_
        · refine kw_iconst (v := 0) C d_Md_hasBits_37 (by decide) ?_
          exact kw_wk (hk1 0 σ8) ⟨Or.inl rfl, Or.inl rfl, trivial⟩
        · exact kw_wk (hk4 () σ8) ⟨Or.inl rfl, Or.inl rfl, trivial⟩
