def y_Md_putSample : MethodName := ⟨"PictureFileModel", "putSample", "(III)V"⟩
theorem w_Md_putSample : Cond.code y_Md_putSample prog_14_method_78_code 6 none ∈ kw_Ts := (kw_m7 (i := 140) (by decide +kernel) (by decide +kernel))
theorem mi_Md_387 : kw_mi "PictureFileModel" 387 y_Md_putSample prog_14_method_78_code 6 none 3 := ⟨(kw_m7 (i := 137) (by decide +kernel) (by decide +kernel)), w_Md_putSample, in_Md, by decide +kernel, by decide +kernel, by decide +kernel⟩
theorem v_Md_putSample : Cond.instanceMethod y_Md_putSample ∈ kw_Ts ∧ Cond.selects y_Md_putSample.cls y_Md_putSample y_Md_putSample ∈ kw_Ts := ⟨(kw_m7 (i := 139) (by decide +kernel) (by decide +kernel)), (kw_sel (i := 85) (by decide +kernel) (by decide +kernel))⟩
def y_Md_lay : MethodName := ⟨"PictureFileModel", "lay", "()V"⟩
theorem w_Md_lay : Cond.code y_Md_lay prog_14_method_77_code 5 none ∈ kw_Ts := (kw_m7 (i := 136) (by decide +kernel) (by decide +kernel))
def y_Md_bestFilter : MethodName := ⟨"PictureFileModel", "bestFilter", "(I)I"⟩
theorem w_Md_bestFilter : Cond.code y_Md_bestFilter prog_14_method_79_code 8 (some .int) ∈ kw_Ts := (kw_m7 (i := 144) (by decide +kernel) (by decide +kernel))
theorem mi_Md_391 : kw_mi "PictureFileModel" 391 y_Md_lay prog_14_method_77_code 5 none 0 := ⟨(kw_m7 (i := 133) (by decide +kernel) (by decide +kernel)), w_Md_lay, in_Md, by decide +kernel, by decide +kernel, by decide +kernel⟩
theorem v_Md_lay : Cond.instanceMethod y_Md_lay ∈ kw_Ts ∧ Cond.selects y_Md_lay.cls y_Md_lay y_Md_lay ∈ kw_Ts := ⟨(kw_m7 (i := 135) (by decide +kernel) (by decide +kernel)), (kw_sel (i := 84) (by decide +kernel) (by decide +kernel))⟩
theorem mi_Md_394 : kw_mi "PictureFileModel" 394 y_Md_bestFilter prog_14_method_79_code 8 (some .int) 1 := ⟨(kw_m7 (i := 141) (by decide +kernel) (by decide +kernel)), w_Md_bestFilter, in_Md, by decide +kernel, by decide +kernel, by decide +kernel⟩
theorem v_Md_bestFilter : Cond.instanceMethod y_Md_bestFilter ∈ kw_Ts ∧ Cond.selects y_Md_bestFilter.cls y_Md_bestFilter y_Md_bestFilter ∈ kw_Ts := ⟨(kw_m7 (i := 143) (by decide +kernel) (by decide +kernel)), (kw_sel (i := 86) (by decide +kernel) (by decide +kernel))⟩
def y_Md_filter : MethodName := ⟨"PictureFileModel", "filter", "(I)I"⟩
theorem w_Md_filter : Cond.code y_Md_filter prog_14_method_80_code 2 (some .int) ∈ kw_Ts := (kw_m7 (i := 132) (by decide +kernel) (by decide +kernel))
def y_Md_put : MethodName := ⟨"PictureFileModel", "put", "(I)V"⟩
theorem w_Md_put : Cond.code y_Md_put prog_14_method_81_code 2 none ∈ kw_Ts := (kw_m7 (i := 157) (by decide +kernel) (by decide +kernel))
theorem mi_Md_397 : kw_mi "PictureFileModel" 397 y_Md_put prog_14_method_81_code 2 none 1 := ⟨(kw_m7 (i := 154) (by decide +kernel) (by decide +kernel)), w_Md_put, in_Md, by decide +kernel, by decide +kernel, by decide +kernel⟩
theorem v_Md_put : Cond.instanceMethod y_Md_put ∈ kw_Ts ∧ Cond.selects y_Md_put.cls y_Md_put y_Md_put ∈ kw_Ts := ⟨(kw_m7 (i := 156) (by decide +kernel) (by decide +kernel)), (kw_sel (i := 88) (by decide +kernel) (by decide +kernel))⟩
def y_Md_putLong : MethodName := ⟨"PictureFileModel", "putLong", "(J)V"⟩
theorem w_Md_putLong : Cond.code y_Md_putLong prog_14_method_82_code 4 none ∈ kw_Ts := (kw_m7 (i := 153) (by decide +kernel) (by decide +kernel))
theorem fi_Md_401 : kw_fi "PictureFileModel" 401 12 54 false := ⟨mmR_12, mmT_12, 57, rfl, rfl, by decide, mmI_12, mmY_12, mmN_12, rfl, (kw_m5 (i := 197) (by decide +kernel) (by decide +kernel))⟩
theorem mi_Md_404 : kw_mi "PictureFileModel" 404 y_Md_putLong prog_14_method_82_code 4 none 1 := ⟨(kw_m7 (i := 150) (by decide +kernel) (by decide +kernel)), w_Md_putLong, in_Md, by decide +kernel, by decide +kernel, by decide +kernel⟩
theorem v_Md_putLong : Cond.instanceMethod y_Md_putLong ∈ kw_Ts ∧ Cond.selects y_Md_putLong.cls y_Md_putLong y_Md_putLong ∈ kw_Ts := ⟨(kw_m7 (i := 152) (by decide +kernel) (by decide +kernel)), (kw_sel (i := 87) (by decide +kernel) (by decide +kernel))⟩
def y_Md_beginPiece : MethodName := ⟨"PictureFileModel", "beginPiece", "(CCCC)V"⟩
theorem w_Md_beginPiece : Cond.code y_Md_beginPiece prog_14_method_83_code 5 none ∈ kw_Ts := (kw_m7 (i := 162) (by decide +kernel) (by decide +kernel))
def y_Md_endPiece : MethodName := ⟨"PictureFileModel", "endPiece", "()V"⟩
theorem w_Md_endPiece : Cond.code y_Md_endPiece prog_14_method_84_code 2 none ∈ kw_Ts := (kw_m7 (i := 166) (by decide +kernel) (by decide +kernel))
theorem mi_Md_412 : kw_mi "PictureFileModel" 412 y_Md_beginPiece prog_14_method_83_code 5 none 4 := ⟨(kw_m7 (i := 159) (by decide +kernel) (by decide +kernel)), w_Md_beginPiece, in_Md, by decide +kernel, by decide +kernel, by decide +kernel⟩
theorem v_Md_beginPiece : Cond.instanceMethod y_Md_beginPiece ∈ kw_Ts ∧ Cond.selects y_Md_beginPiece.cls y_Md_beginPiece y_Md_beginPiece ∈ kw_Ts := ⟨(kw_m7 (i := 161) (by decide +kernel) (by decide +kernel)), (kw_sel (i := 89) (by decide +kernel) (by decide +kernel))⟩
theorem mi_Md_416 : kw_mi "PictureFileModel" 416 y_Md_endPiece prog_14_method_84_code 2 none 0 := ⟨(kw_m7 (i := 163) (by decide +kernel) (by decide +kernel)), w_Md_endPiece, in_Md, by decide +kernel, by decide +kernel, by decide +kernel⟩
theorem v_Md_endPiece : Cond.instanceMethod y_Md_endPiece ∈ kw_Ts ∧ Cond.selects y_Md_endPiece.cls y_Md_endPiece y_Md_endPiece ∈ kw_Ts := ⟨(kw_m7 (i := 165) (by decide +kernel) (by decide +kernel)), (kw_sel (i := 90) (by decide +kernel) (by decide +kernel))⟩
def y_Md_writeColours : MethodName := ⟨"PictureFileModel", "writeColours", "()V"⟩
theorem w_Md_writeColours : Cond.code y_Md_writeColours prog_14_method_86_code 2 none ∈ kw_Ts := (kw_m7 (i := 170) (by decide +kernel) (by decide +kernel))
theorem fi_Md_431 : kw_fi "PictureFileModel" 431 12 55 false := ⟨mmR_12, mmT_12, 57, rfl, rfl, by decide, mmI_12, mmY_12, mmN_12, rfl, (kw_m5 (i := 198) (by decide +kernel) (by decide +kernel))⟩
theorem fi_Md_434 : kw_fi "PictureFileModel" 434 12 56 false := ⟨mmR_12, mmT_12, 57, rfl, rfl, by decide, mmI_12, mmY_12, mmN_12, rfl, (kw_m5 (i := 199) (by decide +kernel) (by decide +kernel))⟩
def y_Md_putBit : MethodName := ⟨"PictureFileModel", "putBit", "(I)V"⟩
theorem w_Md_putBit : Cond.code y_Md_putBit prog_14_method_88_code 2 none ∈ kw_Ts := (kw_m7 (i := 182) (by decide +kernel) (by decide +kernel))
theorem mi_Md_437 : kw_mi "PictureFileModel" 437 y_Md_putBit prog_14_method_88_code 2 none 1 := ⟨(kw_m7 (i := 179) (by decide +kernel) (by decide +kernel)), w_Md_putBit, in_Md, by decide +kernel, by decide +kernel, by decide +kernel⟩
theorem v_Md_putBit : Cond.instanceMethod y_Md_putBit ∈ kw_Ts ∧ Cond.selects y_Md_putBit.cls y_Md_putBit y_Md_putBit ∈ kw_Ts := ⟨(kw_m7 (i := 181) (by decide +kernel) (by decide +kernel)), (kw_sel (i := 94) (by decide +kernel) (by decide +kernel))⟩
def y_Md_putBits : MethodName := ⟨"PictureFileModel", "putBits", "(II)V"⟩
theorem w_Md_putBits : Cond.code y_Md_putBits prog_14_method_89_code 4 none ∈ kw_Ts := (kw_m7 (i := 178) (by decide +kernel) (by decide +kernel))
def y_Md_putCode : MethodName := ⟨"PictureFileModel", "putCode", "(II)V"⟩
theorem w_Md_putCode : Cond.code y_Md_putCode prog_14_method_90_code 4 none ∈ kw_Ts := (kw_m7 (i := 190) (by decide +kernel) (by decide +kernel))
theorem mi_Md_440 : kw_mi "PictureFileModel" 440 y_Md_putCode prog_14_method_90_code 4 none 2 := ⟨(kw_m7 (i := 187) (by decide +kernel) (by decide +kernel)), w_Md_putCode, in_Md, by decide +kernel, by decide +kernel, by decide +kernel⟩
theorem v_Md_putCode : Cond.instanceMethod y_Md_putCode ∈ kw_Ts ∧ Cond.selects y_Md_putCode.cls y_Md_putCode y_Md_putCode ∈ kw_Ts := ⟨(kw_m7 (i := 189) (by decide +kernel) (by decide +kernel)), (kw_sel (i := 96) (by decide +kernel) (by decide +kernel))⟩
def y_Md_putSign : MethodName := ⟨"PictureFileModel", "putSign", "(I)V"⟩
theorem w_Md_putSign : Cond.code y_Md_putSign prog_14_method_91_code 2 none ∈ kw_Ts := (kw_m7 (i := 186) (by decide +kernel) (by decide +kernel))
theorem mi_Md_446 : kw_mi "PictureFileModel" 446 y_Md_putSign prog_14_method_91_code 2 none 1 := ⟨(kw_m7 (i := 183) (by decide +kernel) (by decide +kernel)), w_Md_putSign, in_Md, by decide +kernel, by decide +kernel, by decide +kernel⟩
theorem v_Md_putSign : Cond.instanceMethod y_Md_putSign ∈ kw_Ts ∧ Cond.selects y_Md_putSign.cls y_Md_putSign y_Md_putSign ∈ kw_Ts := ⟨(kw_m7 (i := 185) (by decide +kernel) (by decide +kernel)), (kw_sel (i := 95) (by decide +kernel) (by decide +kernel))⟩
theorem mi_Md_443 : kw_mi "PictureFileModel" 443 y_Md_putBits prog_14_method_89_code 4 none 2 := ⟨(kw_m7 (i := 175) (by decide +kernel) (by decide +kernel)), w_Md_putBits, in_Md, by decide +kernel, by decide +kernel, by decide +kernel⟩
theorem v_Md_putBits : Cond.instanceMethod y_Md_putBits ∈ kw_Ts ∧ Cond.selects y_Md_putBits.cls y_Md_putBits y_Md_putBits ∈ kw_Ts := ⟨(kw_m7 (i := 177) (by decide +kernel) (by decide +kernel)), (kw_sel (i := 93) (by decide +kernel) (by decide +kernel))⟩
def y_Md_putCopy : MethodName := ⟨"PictureFileModel", "putCopy", "(II)V"⟩
theorem w_Md_putCopy : Cond.code y_Md_putCopy prog_14_method_93_code 5 none ∈ kw_Ts := (kw_m7 (i := 194) (by decide +kernel) (by decide +kernel))
theorem mi_Md_449 : kw_mi "PictureFileModel" 449 y_Md_putCopy prog_14_method_93_code 5 none 2 := ⟨(kw_m7 (i := 191) (by decide +kernel) (by decide +kernel)), w_Md_putCopy, in_Md, by decide +kernel, by decide +kernel, by decide +kernel⟩
theorem v_Md_putCopy : Cond.instanceMethod y_Md_putCopy ∈ kw_Ts ∧ Cond.selects y_Md_putCopy.cls y_Md_putCopy y_Md_putCopy ∈ kw_Ts := ⟨(kw_m7 (i := 193) (by decide +kernel) (by decide +kernel)), (kw_sel (i := 97) (by decide +kernel) (by decide +kernel))⟩
def y_Md_writeShort : MethodName := ⟨"PictureFileModel", "writeShort", "()V"⟩
theorem w_Md_writeShort : Cond.code y_Md_writeShort prog_14_method_92_code 6 none ∈ kw_Ts := (kw_m7 (i := 174) (by decide +kernel) (by decide +kernel))
/-! Md_putSample -/
def rm_Md_putSample : Room := { frames := 0, cells := 0, slots := 0, locals := 0 }
def F_Md_putSample (n : Nat) (t : Nat) (a0 : Int32) (a1 : Int32) (a2 : Int32) (σ : Mm) : Option (Mm) :=
kf_l (α := Int32) n (fun k1 x2 σ3 =>
if (gS σ3 (64 * t + 9)) ≤ x2 then (
some σ3) else (
kf_let ((a2 >>> ((((gS σ3 (64 * t + 9)) - 1) - x2) &&& 31)) &&& 1 : Int32) fun x4 =>
Option.bind (gR σ3 (64 * t + 30)) fun o5 =>
Option.bind (gR σ3 (64 * t + 35)) fun o6 =>
kf_in a0 (mm_kd o6).2.2 <|
kf_nz 8 <|
kf_let (((gB σ3 o6 a0.toNatClampNeg) + 1) + ((a1 + x2) / 8) : Int32) fun x7 =>
kf_in x7 (mm_kd o5).2.2 <|
kf_nz 8 <|
kf_in x7 (mm_kd o5).2.2 <| kf_let (pB σ3 o5 x7.toNatClampNeg (vp_nar .byte (((gB σ3 o5 x7.toNatClampNeg) ||| ((x4 <<< (((7 : Int32) - ((a1 + x2) - (a1 + x2) / 8 * 8)) &&& 31)).toInt8.toInt32)).toInt8.toInt32))) fun σ8 =>
kf_let (x2 + Int32.ofInt 1) fun x9 =>
k1 x9 σ8)) 0 σ
theorem d_Md_putSample_0 : decode prog_14_method_78_code 0 = .ok (.iconst 0, 1) := by decide +kernel
theorem d_Md_putSample_1 : decode prog_14_method_78_code 1 = .ok (.istore 4, 2) := by decide +kernel
theorem d_Md_putSample_3 : decode prog_14_method_78_code 3 = .ok (.iload 4, 2) := by decide +kernel
theorem d_Md_putSample_5 : decode prog_14_method_78_code 5 = .ok (.aload_n 0, 1) := by decide +kernel
theorem d_Md_putSample_6 : decode prog_14_method_78_code 6 = .ok (.getfield 366, 3) := by decide +kernel
theorem d_Md_putSample_9 : decode prog_14_method_78_code 9 = .ok (.if_icmp .ge 63, 3) := by decide +kernel
theorem d_Md_putSample_12 : decode prog_14_method_78_code 12 = .ok (.iload_n 3, 1) := by decide +kernel
theorem d_Md_putSample_13 : decode prog_14_method_78_code 13 = .ok (.aload_n 0, 1) := by decide +kernel
theorem d_Md_putSample_14 : decode prog_14_method_78_code 14 = .ok (.getfield 366, 3) := by decide +kernel
theorem d_Md_putSample_17 : decode prog_14_method_78_code 17 = .ok (.iconst 1, 1) := by decide +kernel
theorem d_Md_putSample_18 : decode prog_14_method_78_code 18 = .ok (.isub, 1) := by decide +kernel
theorem d_Md_putSample_19 : decode prog_14_method_78_code 19 = .ok (.iload 4, 2) := by decide +kernel
theorem d_Md_putSample_21 : decode prog_14_method_78_code 21 = .ok (.isub, 1) := by decide +kernel
theorem d_Md_putSample_22 : decode prog_14_method_78_code 22 = .ok (.ishr, 1) := by decide +kernel
theorem d_Md_putSample_23 : decode prog_14_method_78_code 23 = .ok (.iconst 1, 1) := by decide +kernel
theorem d_Md_putSample_24 : decode prog_14_method_78_code 24 = .ok (.iand, 1) := by decide +kernel
theorem d_Md_putSample_25 : decode prog_14_method_78_code 25 = .ok (.istore 5, 2) := by decide +kernel
theorem d_Md_putSample_27 : decode prog_14_method_78_code 27 = .ok (.aload_n 0, 1) := by decide +kernel
theorem d_Md_putSample_28 : decode prog_14_method_78_code 28 = .ok (.getfield 40, 3) := by decide +kernel
theorem d_Md_putSample_31 : decode prog_14_method_78_code 31 = .ok (.aload_n 0, 1) := by decide +kernel
theorem d_Md_putSample_32 : decode prog_14_method_78_code 32 = .ok (.getfield 49, 3) := by decide +kernel
theorem d_Md_putSample_35 : decode prog_14_method_78_code 35 = .ok (.iload_n 1, 1) := by decide +kernel
theorem d_Md_putSample_36 : decode prog_14_method_78_code 36 = .ok (.iaload, 1) := by decide +kernel
theorem d_Md_putSample_37 : decode prog_14_method_78_code 37 = .ok (.iconst 1, 1) := by decide +kernel
theorem d_Md_putSample_38 : decode prog_14_method_78_code 38 = .ok (.iadd, 1) := by decide +kernel
theorem d_Md_putSample_39 : decode prog_14_method_78_code 39 = .ok (.iload_n 2, 1) := by decide +kernel
theorem d_Md_putSample_40 : decode prog_14_method_78_code 40 = .ok (.iload 4, 2) := by decide +kernel
theorem d_Md_putSample_42 : decode prog_14_method_78_code 42 = .ok (.iadd, 1) := by decide +kernel
theorem d_Md_putSample_43 : decode prog_14_method_78_code 43 = .ok (.bipush 8, 2) := by decide +kernel
theorem d_Md_putSample_45 : decode prog_14_method_78_code 45 = .ok (.idiv, 1) := by decide +kernel
theorem d_Md_putSample_46 : decode prog_14_method_78_code 46 = .ok (.iadd, 1) := by decide +kernel
theorem d_Md_putSample_47 : decode prog_14_method_78_code 47 = .ok (.dup2, 1) := by decide +kernel
theorem d_Md_putSample_48 : decode prog_14_method_78_code 48 = .ok (.baload, 1) := by decide +kernel
theorem d_Md_putSample_49 : decode prog_14_method_78_code 49 = .ok (.iload 5, 2) := by decide +kernel
theorem d_Md_putSample_51 : decode prog_14_method_78_code 51 = .ok (.bipush 7, 2) := by decide +kernel
theorem d_Md_putSample_53 : decode prog_14_method_78_code 53 = .ok (.iload_n 2, 1) := by decide +kernel
theorem d_Md_putSample_54 : decode prog_14_method_78_code 54 = .ok (.iload 4, 2) := by decide +kernel
theorem d_Md_putSample_56 : decode prog_14_method_78_code 56 = .ok (.iadd, 1) := by decide +kernel
theorem d_Md_putSample_57 : decode prog_14_method_78_code 57 = .ok (.bipush 8, 2) := by decide +kernel
theorem d_Md_putSample_59 : decode prog_14_method_78_code 59 = .ok (.irem, 1) := by decide +kernel
theorem d_Md_putSample_60 : decode prog_14_method_78_code 60 = .ok (.isub, 1) := by decide +kernel
theorem d_Md_putSample_61 : decode prog_14_method_78_code 61 = .ok (.ishl, 1) := by decide +kernel
theorem d_Md_putSample_62 : decode prog_14_method_78_code 62 = .ok (.i2b, 1) := by decide +kernel
theorem d_Md_putSample_63 : decode prog_14_method_78_code 63 = .ok (.ior, 1) := by decide +kernel
theorem d_Md_putSample_64 : decode prog_14_method_78_code 64 = .ok (.i2b, 1) := by decide +kernel
theorem d_Md_putSample_65 : decode prog_14_method_78_code 65 = .ok (.bastore, 1) := by decide +kernel
theorem d_Md_putSample_66 : decode prog_14_method_78_code 66 = .ok (.iinc 4 1, 3) := by decide +kernel
theorem d_Md_putSample_69 : decode prog_14_method_78_code 69 = .ok (.goto (-66), 3) := by decide +kernel
theorem d_Md_putSample_72 : decode prog_14_method_78_code 72 = .ok (.return_, 1) := by decide +kernel
set_option maxRecDepth 100000 in
set_option maxHeartbeats 4000000 in
theorem c_Md_putSample {l0 : Launch} (hl : l0.stackTraces = false) (n : Nat) (ids : List Nat) {t : Nat} (ht : mm_ok ids t 1 12) (a0 : Int32) (a1 : Int32) (a2 : Int32) (σ : Mm) : kw_C l0 y_Md_putSample (Cond.code y_Md_putSample prog_14_method_78_code 6 none :: kw_Ts) rm_Md_putSample kw_ov ids [] [.ref t, .int a0, .int a1, .int a2] σ (F_Md_putSample n t a0 a1 a2 σ) := by
  refine kw_start (L0 := [some (.ref t), some (.int a0), some (.int a1), some (.int a2), none, none]) hl (by decide +kernel) (Nat.le_of_ble_eq_true rfl) rfl (fun Γ ad C Ce => ?_)
  unfold F_Md_putSample
  refine kw_iconst (v := 0) C d_Md_putSample_0 (by decide) ?_
  refine kw_istore (L' := [some (.ref t), some (.int a0), some (.int a1), some (.int a2), some (.int 0), none]) C d_Md_putSample_1 (by decide) rfl ?_
  refine kw_wk (kw_l (α := Int32) (pc := 3) (Lj := fun x2 => [some (.ref t), some (.int a0), some (.int a1), some (.int a2), some (.int x2), none]) (stj := fun x2 => []) (fun k1 hk1 x2 σ3 => ?_) n 0 σ) ⟨Or.inr rfl, Or.inr rfl, Or.inr rfl, Or.inr rfl, Or.inr rfl, Or.inl rfl, trivial⟩
  refine kw_iload C d_Md_putSample_3 rfl ?_
  refine kw_aload_n C d_Md_putSample_5 rfl ?_
  refine kw_getI C fi_Md_366 (Or.inl rfl) ht d_Md_putSample_6 ?_
  refine kw_icmp_ge (tgt := 72) C d_Md_putSample_9 (by decide) ?_ ?_
  · exact kw_vret C Ce rfl (by simp) (fun _ _ => rfl) (Nat.le_of_ble_eq_true rfl) (Nat.le_of_ble_eq_true rfl) rfl d_Md_putSample_72
  · refine kw_iload_n C d_Md_putSample_12 rfl ?_
    refine kw_aload_n C d_Md_putSample_13 rfl ?_
    refine kw_getI C fi_Md_366 (Or.inl rfl) ht d_Md_putSample_14 ?_
    refine kw_iconst (v := 1) C d_Md_putSample_17 (by decide) ?_
    refine kw_isub C d_Md_putSample_18 ?_
    refine kw_iload C d_Md_putSample_19 rfl ?_
    refine kw_isub C d_Md_putSample_21 ?_
    refine kw_ishr C d_Md_putSample_22 ?_
    refine kw_iconst (v := 1) C d_Md_putSample_23 (by decide) ?_
    refine kw_iand C d_Md_putSample_24 ?_
    refine kw_leti (fun x4 => ?_)
    refine kw_istore (L' := [some (.ref t), some (.int a0), some (.int a1), some (.int a2), some (.int x2), some (.int x4)]) C d_Md_putSample_25 (by decide) rfl ?_
    refine kw_aload_n C d_Md_putSample_27 rfl ?_
    refine kw_getR C fi_Md_40 rfl rfl ht d_Md_putSample_28 (fun o5 ho5 => ?_)
    refine kw_aload_n C d_Md_putSample_31 rfl ?_
    refine kw_getR C fi_Md_49 rfl rfl ht d_Md_putSample_32 (fun o6 ho6 => ?_)
    refine kw_iload_n C d_Md_putSample_35 rfl ?_
    refine kw_iald C (Or.inl ⟨ho6.1, ho6.2.1⟩) d_Md_putSample_36 ?_
    refine kw_iconst (v := 1) C d_Md_putSample_37 (by decide) ?_
    refine kw_iadd C d_Md_putSample_38 ?_
    refine kw_iload_n C d_Md_putSample_39 rfl ?_
    refine kw_iload C d_Md_putSample_40 rfl ?_
    refine kw_iadd C d_Md_putSample_42 ?_
    refine kw_bipush (v := 8) C d_Md_putSample_43 (by decide) ?_
    refine kw_idiv C d_Md_putSample_45 ?_
    refine kw_iadd C d_Md_putSample_46 ?_
    refine kw_leti (fun x7 => ?_)
    refine kw_dup2 C d_Md_putSample_47 rfl rfl ?_
    refine kw_bald C ho5 d_Md_putSample_48 ?_
    refine kw_iload C d_Md_putSample_49 rfl ?_
    refine kw_bipush (v := 7) C d_Md_putSample_51 (by decide) ?_
    refine kw_iload_n C d_Md_putSample_53 rfl ?_
    refine kw_iload C d_Md_putSample_54 rfl ?_
    refine kw_iadd C d_Md_putSample_56 ?_
    refine kw_bipush (v := 8) C d_Md_putSample_57 (by decide) ?_
    refine kw_irem C d_Md_putSample_59 ?_
    refine kw_isub C d_Md_putSample_60 ?_
    refine kw_ishl C d_Md_putSample_61 ?_
    refine kw_i2b C d_Md_putSample_62 ?_
    refine kw_ior C d_Md_putSample_63 ?_
    refine kw_i2b C d_Md_putSample_64 ?_
    refine kw_bast C ho5 d_Md_putSample_65 (fun σ8 => ?_)
    refine kw_iincL (L2 := fun x9 => [some (.ref t), some (.int a0), some (.int a1), some (.int a2), some (.int x9), some (.int x4)]) C d_Md_putSample_66 (by decide) rfl (fun _ => rfl) (fun x9 => ?_)
    refine kw_goto (tgt := 3) C d_Md_putSample_69 (by decide) ?_
    exact kw_wk (hk1 x9 σ8) ⟨Or.inr rfl, Or.inr rfl, Or.inr rfl, Or.inr rfl, Or.inr rfl, Or.inl rfl, trivial⟩
/-! Md_lay -/
def rm_Md_lay : Room := { frames := 2, cells := 0, slots := 0, locals := 51 }
def F_Md_lay (n : Nat) (t : Nat) (σ : Mm) : Option (Mm) :=
kf_let (pS σ (64 * t + 52) (gS σ (64 * t + 8))) fun σ1 =>
kf_let (pS σ1 (64 * t + 53) (gS σ1 (64 * t + 9))) fun σ2 =>
Option.bind (F_Md_rows n t (gS σ2 (64 * t + 6)) (gS σ2 (64 * t + 7)) (gS σ2 (64 * t + 8)) (gS σ2 (64 * t + 9)) (gS σ2 (64 * t + 10)) σ2) fun σ3 =>
kf_c2 (F_Md_channels n (gS σ3 (64 * t + 8)) σ3) fun x4 σ5 =>
kf_l (α := Int32) n (fun k6 x7 σ8 =>
if (gS σ8 (64 * t + 39)) ≤ x7 then (
kf_l (α := Int32) n (fun k9 x10 σ11 =>
if (gS σ11 (64 * t + 38)) ≤ x10 then (
some σ11) else (
kf_l (α := Int32) n (fun k12 x13 σ14 =>
Option.bind (gR σ14 (64 * t + 37)) fun o15 =>
kf_in x10 (mm_kd o15).2.2 <|
if (gB σ14 o15 x10.toNatClampNeg) ≤ x13 then (
kf_let (x10 + Int32.ofInt 1) fun x16 =>
k9 x16 σ14) else (
kf_l (α := Int32) n (fun k17 x18 σ19 =>
if x4 ≤ x18 then (
kf_let (x13 + Int32.ofInt 1) fun x20 =>
k12 x20 σ19) else (
Option.bind (gR σ19 (64 * t + 11)) fun o21 =>
kf_c2 (F_Md_pointOf n t x10 x13 (gS σ19 (64 * t + 6)) σ19) fun x22 σ23 =>
kf_let ((x22 * x4) + x18 : Int32) fun x24 =>
kf_in x24 (mm_kd o21).2.2 <|
Option.bind (F_Md_putSample n t x10 (((x13 * x4) + x18) * (gS σ19 (64 * t + 9))) (gB σ23 o21 x24.toNatClampNeg) σ23) fun σ25 =>
kf_let (x18 + Int32.ofInt 1) fun x26 =>
k17 x26 σ25)) 0 σ14)) 0 σ11)) 0 σ8) else (
Option.bind (gR σ8 (64 * t + 30)) fun o27 =>
kf_in x7 (mm_kd o27).2.2 <| kf_let (pB σ8 o27 x7.toNatClampNeg (vp_nar .byte 0)) fun σ28 =>
kf_let (x7 + Int32.ofInt 1) fun x29 =>
k6 x29 σ28)) 0 σ5
theorem d_Md_lay_0 : decode prog_14_method_77_code 0 = .ok (.aload_n 0, 1) := by decide +kernel
theorem d_Md_lay_1 : decode prog_14_method_77_code 1 = .ok (.aload_n 0, 1) := by decide +kernel
theorem d_Md_lay_2 : decode prog_14_method_77_code 2 = .ok (.getfield 363, 3) := by decide +kernel
theorem d_Md_lay_5 : decode prog_14_method_77_code 5 = .ok (.putfield 317, 3) := by decide +kernel
theorem d_Md_lay_8 : decode prog_14_method_77_code 8 = .ok (.aload_n 0, 1) := by decide +kernel
theorem d_Md_lay_9 : decode prog_14_method_77_code 9 = .ok (.aload_n 0, 1) := by decide +kernel
theorem d_Md_lay_10 : decode prog_14_method_77_code 10 = .ok (.getfield 366, 3) := by decide +kernel
theorem d_Md_lay_13 : decode prog_14_method_77_code 13 = .ok (.putfield 320, 3) := by decide +kernel
theorem d_Md_lay_16 : decode prog_14_method_77_code 16 = .ok (.aload_n 0, 1) := by decide +kernel
theorem d_Md_lay_17 : decode prog_14_method_77_code 17 = .ok (.aload_n 0, 1) := by decide +kernel
theorem d_Md_lay_18 : decode prog_14_method_77_code 18 = .ok (.getfield 357, 3) := by decide +kernel
theorem d_Md_lay_21 : decode prog_14_method_77_code 21 = .ok (.aload_n 0, 1) := by decide +kernel
theorem d_Md_lay_22 : decode prog_14_method_77_code 22 = .ok (.getfield 360, 3) := by decide +kernel
theorem d_Md_lay_25 : decode prog_14_method_77_code 25 = .ok (.aload_n 0, 1) := by decide +kernel
theorem d_Md_lay_26 : decode prog_14_method_77_code 26 = .ok (.getfield 363, 3) := by decide +kernel
theorem d_Md_lay_29 : decode prog_14_method_77_code 29 = .ok (.aload_n 0, 1) := by decide +kernel
theorem d_Md_lay_30 : decode prog_14_method_77_code 30 = .ok (.getfield 366, 3) := by decide +kernel
theorem d_Md_lay_33 : decode prog_14_method_77_code 33 = .ok (.aload_n 0, 1) := by decide +kernel
theorem d_Md_lay_34 : decode prog_14_method_77_code 34 = .ok (.getfield 369, 3) := by decide +kernel
theorem d_Md_lay_37 : decode prog_14_method_77_code 37 = .ok (.invokevirtual 335, 3) := by decide +kernel
theorem d_Md_lay_40 : decode prog_14_method_77_code 40 = .ok (.aload_n 0, 1) := by decide +kernel
theorem d_Md_lay_41 : decode prog_14_method_77_code 41 = .ok (.getfield 363, 3) := by decide +kernel
theorem d_Md_lay_44 : decode prog_14_method_77_code 44 = .ok (.invokestatic 119, 3) := by decide +kernel
theorem d_Md_lay_47 : decode prog_14_method_77_code 47 = .ok (.istore_n 1, 1) := by decide +kernel
theorem d_Md_lay_48 : decode prog_14_method_77_code 48 = .ok (.iconst 0, 1) := by decide +kernel
theorem d_Md_lay_49 : decode prog_14_method_77_code 49 = .ok (.istore_n 2, 1) := by decide +kernel
theorem d_Md_lay_50 : decode prog_14_method_77_code 50 = .ok (.iload_n 2, 1) := by decide +kernel
theorem d_Md_lay_51 : decode prog_14_method_77_code 51 = .ok (.aload_n 0, 1) := by decide +kernel
theorem d_Md_lay_52 : decode prog_14_method_77_code 52 = .ok (.getfield 100, 3) := by decide +kernel
theorem d_Md_lay_55 : decode prog_14_method_77_code 55 = .ok (.if_icmp .ge 16, 3) := by decide +kernel
theorem d_Md_lay_58 : decode prog_14_method_77_code 58 = .ok (.aload_n 0, 1) := by decide +kernel
theorem d_Md_lay_59 : decode prog_14_method_77_code 59 = .ok (.getfield 40, 3) := by decide +kernel
theorem d_Md_lay_62 : decode prog_14_method_77_code 62 = .ok (.iload_n 2, 1) := by decide +kernel
theorem d_Md_lay_63 : decode prog_14_method_77_code 63 = .ok (.iconst 0, 1) := by decide +kernel
theorem d_Md_lay_64 : decode prog_14_method_77_code 64 = .ok (.bastore, 1) := by decide +kernel
theorem d_Md_lay_65 : decode prog_14_method_77_code 65 = .ok (.iinc 2 1, 3) := by decide +kernel
theorem d_Md_lay_68 : decode prog_14_method_77_code 68 = .ok (.goto (-18), 3) := by decide +kernel
theorem d_Md_lay_71 : decode prog_14_method_77_code 71 = .ok (.iconst 0, 1) := by decide +kernel
theorem d_Md_lay_72 : decode prog_14_method_77_code 72 = .ok (.istore_n 2, 1) := by decide +kernel
theorem d_Md_lay_73 : decode prog_14_method_77_code 73 = .ok (.iload_n 2, 1) := by decide +kernel
theorem d_Md_lay_74 : decode prog_14_method_77_code 74 = .ok (.aload_n 0, 1) := by decide +kernel
theorem d_Md_lay_75 : decode prog_14_method_77_code 75 = .ok (.getfield 97, 3) := by decide +kernel
theorem d_Md_lay_78 : decode prog_14_method_77_code 78 = .ok (.if_icmp .ge 78, 3) := by decide +kernel
theorem d_Md_lay_81 : decode prog_14_method_77_code 81 = .ok (.iconst 0, 1) := by decide +kernel
theorem d_Md_lay_82 : decode prog_14_method_77_code 82 = .ok (.istore_n 3, 1) := by decide +kernel
theorem d_Md_lay_83 : decode prog_14_method_77_code 83 = .ok (.iload_n 3, 1) := by decide +kernel
theorem d_Md_lay_84 : decode prog_14_method_77_code 84 = .ok (.aload_n 0, 1) := by decide +kernel
theorem d_Md_lay_85 : decode prog_14_method_77_code 85 = .ok (.getfield 55, 3) := by decide +kernel
theorem d_Md_lay_88 : decode prog_14_method_77_code 88 = .ok (.iload_n 2, 1) := by decide +kernel
theorem d_Md_lay_89 : decode prog_14_method_77_code 89 = .ok (.iaload, 1) := by decide +kernel
theorem d_Md_lay_90 : decode prog_14_method_77_code 90 = .ok (.if_icmp .ge 60, 3) := by decide +kernel
theorem d_Md_lay_93 : decode prog_14_method_77_code 93 = .ok (.iconst 0, 1) := by decide +kernel
theorem d_Md_lay_94 : decode prog_14_method_77_code 94 = .ok (.istore 4, 2) := by decide +kernel
theorem d_Md_lay_96 : decode prog_14_method_77_code 96 = .ok (.iload 4, 2) := by decide +kernel
theorem d_Md_lay_98 : decode prog_14_method_77_code 98 = .ok (.iload_n 1, 1) := by decide +kernel
theorem d_Md_lay_99 : decode prog_14_method_77_code 99 = .ok (.if_icmp .ge 45, 3) := by decide +kernel
theorem d_Md_lay_102 : decode prog_14_method_77_code 102 = .ok (.aload_n 0, 1) := by decide +kernel
theorem d_Md_lay_103 : decode prog_14_method_77_code 103 = .ok (.iload_n 2, 1) := by decide +kernel
theorem d_Md_lay_104 : decode prog_14_method_77_code 104 = .ok (.iload_n 3, 1) := by decide +kernel
theorem d_Md_lay_105 : decode prog_14_method_77_code 105 = .ok (.iload_n 1, 1) := by decide +kernel
theorem d_Md_lay_106 : decode prog_14_method_77_code 106 = .ok (.imul, 1) := by decide +kernel
theorem d_Md_lay_107 : decode prog_14_method_77_code 107 = .ok (.iload 4, 2) := by decide +kernel
theorem d_Md_lay_109 : decode prog_14_method_77_code 109 = .ok (.iadd, 1) := by decide +kernel
theorem d_Md_lay_110 : decode prog_14_method_77_code 110 = .ok (.aload_n 0, 1) := by decide +kernel
theorem d_Md_lay_111 : decode prog_14_method_77_code 111 = .ok (.getfield 366, 3) := by decide +kernel
theorem d_Md_lay_114 : decode prog_14_method_77_code 114 = .ok (.imul, 1) := by decide +kernel
theorem d_Md_lay_115 : decode prog_14_method_77_code 115 = .ok (.aload_n 0, 1) := by decide +kernel
theorem d_Md_lay_116 : decode prog_14_method_77_code 116 = .ok (.getfield 14, 3) := by decide +kernel
theorem d_Md_lay_119 : decode prog_14_method_77_code 119 = .ok (.aload_n 0, 1) := by decide +kernel
theorem d_Md_lay_120 : decode prog_14_method_77_code 120 = .ok (.iload_n 2, 1) := by decide +kernel
theorem d_Md_lay_121 : decode prog_14_method_77_code 121 = .ok (.iload_n 3, 1) := by decide +kernel
theorem d_Md_lay_122 : decode prog_14_method_77_code 122 = .ok (.aload_n 0, 1) := by decide +kernel
theorem d_Md_lay_123 : decode prog_14_method_77_code 123 = .ok (.getfield 357, 3) := by decide +kernel
theorem d_Md_lay_126 : decode prog_14_method_77_code 126 = .ok (.invokevirtual 345, 3) := by decide +kernel
theorem d_Md_lay_129 : decode prog_14_method_77_code 129 = .ok (.iload_n 1, 1) := by decide +kernel
theorem d_Md_lay_130 : decode prog_14_method_77_code 130 = .ok (.imul, 1) := by decide +kernel
theorem d_Md_lay_131 : decode prog_14_method_77_code 131 = .ok (.iload 4, 2) := by decide +kernel
theorem d_Md_lay_133 : decode prog_14_method_77_code 133 = .ok (.iadd, 1) := by decide +kernel
theorem d_Md_lay_134 : decode prog_14_method_77_code 134 = .ok (.iaload, 1) := by decide +kernel
theorem d_Md_lay_135 : decode prog_14_method_77_code 135 = .ok (.invokevirtual 387, 3) := by decide +kernel
theorem d_Md_lay_138 : decode prog_14_method_77_code 138 = .ok (.iinc 4 1, 3) := by decide +kernel
theorem d_Md_lay_141 : decode prog_14_method_77_code 141 = .ok (.goto (-45), 3) := by decide +kernel
theorem d_Md_lay_144 : decode prog_14_method_77_code 144 = .ok (.iinc 3 1, 3) := by decide +kernel
theorem d_Md_lay_147 : decode prog_14_method_77_code 147 = .ok (.goto (-64), 3) := by decide +kernel
theorem d_Md_lay_150 : decode prog_14_method_77_code 150 = .ok (.iinc 2 1, 3) := by decide +kernel
theorem d_Md_lay_153 : decode prog_14_method_77_code 153 = .ok (.goto (-80), 3) := by decide +kernel
theorem d_Md_lay_156 : decode prog_14_method_77_code 156 = .ok (.return_, 1) := by decide +kernel
set_option maxRecDepth 100000 in
set_option maxHeartbeats 4000000 in
theorem c_Md_lay {l0 : Launch} (hl : l0.stackTraces = false) (n : Nat) (ids : List Nat) {t : Nat} (ht : mm_ok ids t 1 12)  (σ : Mm) : kw_C l0 y_Md_lay (Cond.code y_Md_lay prog_14_method_77_code 5 none :: kw_Ts) rm_Md_lay kw_ov ids [] [.ref t] σ (F_Md_lay n t σ) := by
  refine kw_start (L0 := [some (.ref t), none, none, none, none]) hl (by decide +kernel) (Nat.le_of_ble_eq_true rfl) rfl (fun Γ ad C Ce => ?_)
  unfold F_Md_lay
  refine kw_aload_n C d_Md_lay_0 rfl ?_
  refine kw_aload_n C d_Md_lay_1 rfl ?_
  refine kw_getI C fi_Md_363 (Or.inl rfl) ht d_Md_lay_2 ?_
  refine kw_putI C fi_Md_317 rfl ht d_Md_lay_5 (fun σ1 => ?_)
  refine kw_aload_n C d_Md_lay_8 rfl ?_
  refine kw_aload_n C d_Md_lay_9 rfl ?_
  refine kw_getI C fi_Md_366 (Or.inl rfl) ht d_Md_lay_10 ?_
  refine kw_putI C fi_Md_320 rfl ht d_Md_lay_13 (fun σ2 => ?_)
  refine kw_aload_n C d_Md_lay_16 rfl ?_
  refine kw_aload_n C d_Md_lay_17 rfl ?_
  refine kw_getI C fi_Md_357 (Or.inl rfl) ht d_Md_lay_18 ?_
  refine kw_aload_n C d_Md_lay_21 rfl ?_
  refine kw_getI C fi_Md_360 (Or.inl rfl) ht d_Md_lay_22 ?_
  refine kw_aload_n C d_Md_lay_25 rfl ?_
  refine kw_getI C fi_Md_363 (Or.inl rfl) ht d_Md_lay_26 ?_
  refine kw_aload_n C d_Md_lay_29 rfl ?_
  refine kw_getI C fi_Md_366 (Or.inl rfl) ht d_Md_lay_30 ?_
  refine kw_aload_n C d_Md_lay_33 rfl ?_
  refine kw_getI C fi_Md_369 (Or.inr rfl) ht d_Md_lay_34 ?_
  refine kw_callVv (cl' := 0) (sl' := 0) (As := [.int (gS σ2 (64 * t + 6)), .int (gS σ2 (64 * t + 7)), .int (gS σ2 (64 * t + 8)), .int (gS σ2 (64 * t + 9)), .int (gS σ2 (64 * t + 10))]) C (c_Md_rows hl n ids ht (gS σ2 (64 * t + 6)) (gS σ2 (64 * t + 7)) (gS σ2 (64 * t + 8)) (gS σ2 (64 * t + 9)) (gS σ2 (64 * t + 10)) σ2) mi_Md_335 v_Md_rows ⟨_, _, rfl⟩ ht ⟨Nat.le_of_ble_eq_true rfl, Nat.le_of_ble_eq_true rfl⟩ (Nat.le_of_ble_eq_true rfl) ⟨Nat.le_of_ble_eq_true rfl, Nat.le_of_ble_eq_true rfl⟩ ⟨rfl, rfl⟩ rfl d_Md_lay_37 (fun σ3 => ?_)
  refine kw_aload_n C d_Md_lay_40 rfl ?_
  refine kw_getI C fi_Md_363 (Or.inl rfl) ht d_Md_lay_41 ?_
  refine kw_callSi (cl' := 0) (sl' := 0) (As := [.int (gS σ3 (64 * t + 8))]) C (c_Md_channels hl n ids  (gS σ3 (64 * t + 8)) σ3) mi_Md_119 s_Md_channels ⟨Nat.le_of_ble_eq_true rfl, Nat.le_of_ble_eq_true rfl⟩ (Nat.le_of_ble_eq_true rfl) ⟨Nat.le_of_ble_eq_true rfl, Nat.le_of_ble_eq_true rfl⟩ ⟨rfl, rfl⟩ rfl d_Md_lay_44 (fun x4 σ5 => ?_)
  refine kw_istore_n (L' := [some (.ref t), some (.int x4), none, none, none]) C d_Md_lay_47 (by decide) rfl ?_
  refine kw_iconst (v := 0) C d_Md_lay_48 (by decide) ?_
  refine kw_istore_n (L' := [some (.ref t), some (.int x4), some (.int 0), none, none]) C d_Md_lay_49 (by decide) rfl ?_
  refine kw_wk (kw_l (α := Int32) (pc := 50) (Lj := fun x7 => [some (.ref t), some (.int x4), some (.int x7), none, none]) (stj := fun x7 => []) (fun k6 hk6 x7 σ8 => ?_) n 0 σ5) ⟨Or.inr rfl, Or.inr rfl, Or.inr rfl, Or.inl rfl, Or.inl rfl, trivial⟩
  refine kw_iload_n C d_Md_lay_50 rfl ?_
  refine kw_aload_n C d_Md_lay_51 rfl ?_
  refine kw_getI C fi_Md_100 (Or.inl rfl) ht d_Md_lay_52 ?_
  refine kw_icmp_ge (tgt := 71) C d_Md_lay_55 (by decide) ?_ ?_
  · refine kw_iconst (v := 0) C d_Md_lay_71 (by decide) ?_
    refine kw_istore_n (L' := [some (.ref t), some (.int x4), some (.int 0), none, none]) C d_Md_lay_72 (by decide) rfl ?_
    refine kw_wk (kw_l (α := Int32) (pc := 73) (Lj := fun x10 => [some (.ref t), some (.int x4), some (.int x10), none, none]) (stj := fun x10 => []) (fun k9 hk9 x10 σ11 => ?_) n 0 σ8) ⟨Or.inr rfl, Or.inr rfl, Or.inr rfl, Or.inl rfl, Or.inl rfl, trivial⟩
    refine kw_iload_n C d_Md_lay_73 rfl ?_
    refine kw_aload_n C d_Md_lay_74 rfl ?_
    refine kw_getI C fi_Md_97 (Or.inl rfl) ht d_Md_lay_75 ?_
    refine kw_icmp_ge (tgt := 156) C d_Md_lay_78 (by decide) ?_ ?_
    · exact kw_vret C Ce rfl (by simp) (fun _ _ => rfl) (Nat.le_of_ble_eq_true rfl) (Nat.le_of_ble_eq_true rfl) rfl d_Md_lay_156
    · refine kw_iconst (v := 0) C d_Md_lay_81 (by decide) ?_
      refine kw_istore_n (L' := [some (.ref t), some (.int x4), some (.int x10), some (.int 0), none]) C d_Md_lay_82 (by decide) rfl ?_
      refine kw_wk (kw_l (α := Int32) (pc := 83) (Lj := fun x13 => [some (.ref t), some (.int x4), some (.int x10), some (.int x13), none]) (stj := fun x13 => []) (fun k12 hk12 x13 σ14 => ?_) n 0 σ11) ⟨Or.inr rfl, Or.inr rfl, Or.inr rfl, Or.inr rfl, Or.inl rfl, trivial⟩
      refine kw_iload_n C d_Md_lay_83 rfl ?_
      refine kw_aload_n C d_Md_lay_84 rfl ?_
      refine kw_getR C fi_Md_55 rfl rfl ht d_Md_lay_85 (fun o15 ho15 => ?_)
      refine kw_iload_n C d_Md_lay_88 rfl ?_
      refine kw_iald C (Or.inl ⟨ho15.1, ho15.2.1⟩) d_Md_lay_89 ?_
      refine kw_icmp_ge (tgt := 150) C d_Md_lay_90 (by decide) ?_ ?_
      · refine kw_iincL (L2 := fun x16 => [some (.ref t), some (.int x4), some (.int x16), some (.int x13), none]) C d_Md_lay_150 (by decide) rfl (fun _ => rfl) (fun x16 => ?_)
        refine kw_goto (tgt := 73) C d_Md_lay_153 (by decide) ?_
        exact kw_wk (hk9 x16 σ14) ⟨Or.inr rfl, Or.inr rfl, Or.inr rfl, Or.inl rfl, Or.inl rfl, trivial⟩
      · refine kw_iconst (v := 0) C d_Md_lay_93 (by decide) ?_
        refine kw_istore (L' := [some (.ref t), some (.int x4), some (.int x10), some (.int x13), some (.int 0)]) C d_Md_lay_94 (by decide) rfl ?_
        refine kw_wk (kw_l (α := Int32) (pc := 96) (Lj := fun x18 => [some (.ref t), some (.int x4), some (.int x10), some (.int x13), some (.int x18)]) (stj := fun x18 => []) (fun k17 hk17 x18 σ19 => ?_) n 0 σ14) ⟨Or.inr rfl, Or.inr rfl, Or.inr rfl, Or.inr rfl, Or.inr rfl, trivial⟩
        refine kw_iload C d_Md_lay_96 rfl ?_
        refine kw_iload_n C d_Md_lay_98 rfl ?_
        refine kw_icmp_ge (tgt := 144) C d_Md_lay_99 (by decide) ?_ ?_
        · refine kw_iincL (L2 := fun x20 => [some (.ref t), some (.int x4), some (.int x10), some (.int x20), some (.int x18)]) C d_Md_lay_144 (by decide) rfl (fun _ => rfl) (fun x20 => ?_)
          refine kw_goto (tgt := 83) C d_Md_lay_147 (by decide) ?_
          exact kw_wk (hk12 x20 σ19) ⟨Or.inr rfl, Or.inr rfl, Or.inr rfl, Or.inr rfl, Or.inl rfl, trivial⟩
        · refine kw_aload_n C d_Md_lay_102 rfl ?_
          refine kw_iload_n C d_Md_lay_103 rfl ?_
          refine kw_iload_n C d_Md_lay_104 rfl ?_
          refine kw_iload_n C d_Md_lay_105 rfl ?_
          refine kw_imul C d_Md_lay_106 ?_
          refine kw_iload C d_Md_lay_107 rfl ?_
          refine kw_iadd C d_Md_lay_109 ?_
          refine kw_aload_n C d_Md_lay_110 rfl ?_
          refine kw_getI C fi_Md_366 (Or.inl rfl) ht d_Md_lay_111 ?_
          refine kw_imul C d_Md_lay_114 ?_
          refine kw_aload_n C d_Md_lay_115 rfl ?_
          refine kw_getR C fi_Md_14 rfl rfl ht d_Md_lay_116 (fun o21 ho21 => ?_)
          refine kw_aload_n C d_Md_lay_119 rfl ?_
          refine kw_iload_n C d_Md_lay_120 rfl ?_
          refine kw_iload_n C d_Md_lay_121 rfl ?_
          refine kw_aload_n C d_Md_lay_122 rfl ?_
          refine kw_getI C fi_Md_357 (Or.inl rfl) ht d_Md_lay_123 ?_
          refine kw_callVi (cl' := 0) (sl' := 0) (As := [.int x10, .int x13, .int (gS σ19 (64 * t + 6))]) C (c_Md_pointOf hl n ids ht x10 x13 (gS σ19 (64 * t + 6)) σ19) mi_Md_345 v_Md_pointOf ⟨_, _, rfl⟩ ht ⟨Nat.le_of_ble_eq_true rfl, Nat.le_of_ble_eq_true rfl⟩ (Nat.le_of_ble_eq_true rfl) ⟨Nat.le_of_ble_eq_true rfl, Nat.le_of_ble_eq_true rfl⟩ ⟨rfl, rfl⟩ rfl d_Md_lay_126 (fun x22 σ23 => ?_)
          refine kw_iload_n C d_Md_lay_129 rfl ?_
          refine kw_imul C d_Md_lay_130 ?_
          refine kw_iload C d_Md_lay_131 rfl ?_
          refine kw_iadd C d_Md_lay_133 ?_
          refine kw_leti (fun x24 => ?_)
          refine kw_iald C (Or.inl ⟨ho21.1, ho21.2.1⟩) d_Md_lay_134 ?_
          refine kw_callVv (cl' := 0) (sl' := 0) (As := [.int x10, .int (((x13 * x4) + x18) * (gS σ19 (64 * t + 9))), .int (gB σ23 o21 x24.toNatClampNeg)]) C (c_Md_putSample hl n ids ht x10 (((x13 * x4) + x18) * (gS σ19 (64 * t + 9))) (gB σ23 o21 x24.toNatClampNeg) σ23) mi_Md_387 v_Md_putSample ⟨_, _, rfl⟩ ht ⟨Nat.le_of_ble_eq_true rfl, Nat.le_of_ble_eq_true rfl⟩ (Nat.le_of_ble_eq_true rfl) ⟨Nat.le_of_ble_eq_true rfl, Nat.le_of_ble_eq_true rfl⟩ ⟨rfl, rfl⟩ rfl d_Md_lay_135 (fun σ25 => ?_)
          refine kw_iincL (L2 := fun x26 => [some (.ref t), some (.int x4), some (.int x10), some (.int x13), some (.int x26)]) C d_Md_lay_138 (by decide) rfl (fun _ => rfl) (fun x26 => ?_)
          refine kw_goto (tgt := 96) C d_Md_lay_141 (by decide) ?_
          exact kw_wk (hk17 x26 σ25) ⟨Or.inr rfl, Or.inr rfl, Or.inr rfl, Or.inr rfl, Or.inr rfl, trivial⟩
  · refine kw_aload_n C d_Md_lay_58 rfl ?_
    refine kw_getR C fi_Md_40 rfl rfl ht d_Md_lay_59 (fun o27 ho27 => ?_)
    refine kw_iload_n C d_Md_lay_62 rfl ?_
    refine kw_iconst (v := 0) C d_Md_lay_63 (by decide) ?_
    refine kw_bast C ho27 d_Md_lay_64 (fun σ28 => ?_)
    refine kw_iincL (L2 := fun x29 => [some (.ref t), some (.int x4), some (.int x29), none, none]) C d_Md_lay_65 (by decide) rfl (fun _ => rfl) (fun x29 => ?_)
    refine kw_goto (tgt := 50) C d_Md_lay_68 (by decide) ?_
    exact kw_wk (hk6 x29 σ28) ⟨Or.inr rfl, Or.inr rfl, Or.inr rfl, Or.inl rfl, Or.inl rfl, trivial⟩
/-! Md_bestFilter -/
def rm_Md_bestFilter : Room := { frames := 3, cells := 0, slots := 0, locals := 74 }
def F_Md_bestFilter (n : Nat) (t : Nat) (a0 : Int32) (σ : Mm) : Option (Int32 × Mm) :=
kf_l (α := Int32 × Int32 × Int32) n (fun k1 x2 σ3 =>
if 5 ≤ x2.2.2 then (
some (x2.1, σ3)) else (
kf_l (α := Int32 × Int32) n (fun k4 x5 σ6 =>
Option.bind (gR σ6 (64 * t + 36)) fun o7 =>
kf_in a0 (mm_kd o7).2.2 <|
if (gB σ6 o7 a0.toNatClampNeg) ≤ x5.2 then (
kf_j (α := Int32) (fun x9 σ10 =>
kf_j (α := Int32) (fun x12 σ13 =>
kf_let (x2.2.2 + Int32.ofInt 1) fun x14 =>
k1 (x9, x12, x14) σ13) fun k11 =>
kf_j (α := Unit) (fun x16 σ17 =>
k11 x5.1 σ17) fun k15 =>
if x2.2.2 = 0 then (
k15 () σ10) else (
if x2.2.1 ≤ x5.1 then (
k11 x2.2.1 σ10) else (
k15 () σ10))) fun k8 =>
kf_j (α := Unit) (fun x19 σ20 =>
k8 x2.2.2 σ20) fun k18 =>
if x2.2.2 = 0 then (
k18 () σ6) else (
if x2.2.1 ≤ x5.1 then (
k8 x2.1 σ6) else (
k18 () σ6))) else (
kf_c2 (F_Md_byteOf n t a0 x5.2 σ6) fun x21 σ22 =>
kf_c2 (F_Md_guess n t x2.2.2 a0 x5.2 σ22) fun x23 σ24 =>
kf_let ((x21 - x23) &&& 255 : Int32) fun x25 =>
kf_j (α := Int32 × Int32) (fun x27 σ28 =>
kf_let (x27.1 + x27.2 : Int32) fun x29 =>
kf_let (x5.2 + Int32.ofInt 1) fun x30 =>
k4 (x29, x30) σ28) fun k26 =>
if x25 ≤ 127 then (
k26 (x5.1, x25) σ24) else (
k26 (x5.1, (256 : Int32) - x25) σ24))) (0, 0) σ3)) (0, 0, 0) σ
theorem d_Md_bestFilter_0 : decode prog_14_method_79_code 0 = .ok (.iconst 0, 1) := by decide +kernel
theorem d_Md_bestFilter_1 : decode prog_14_method_79_code 1 = .ok (.istore_n 2, 1) := by decide +kernel
theorem d_Md_bestFilter_2 : decode prog_14_method_79_code 2 = .ok (.iconst 0, 1) := by decide +kernel
theorem d_Md_bestFilter_3 : decode prog_14_method_79_code 3 = .ok (.istore_n 3, 1) := by decide +kernel
theorem d_Md_bestFilter_4 : decode prog_14_method_79_code 4 = .ok (.iconst 0, 1) := by decide +kernel
theorem d_Md_bestFilter_5 : decode prog_14_method_79_code 5 = .ok (.istore 4, 2) := by decide +kernel
theorem d_Md_bestFilter_7 : decode prog_14_method_79_code 7 = .ok (.iload 4, 2) := by decide +kernel
theorem d_Md_bestFilter_9 : decode prog_14_method_79_code 9 = .ok (.iconst 5, 1) := by decide +kernel
theorem d_Md_bestFilter_10 : decode prog_14_method_79_code 10 = .ok (.if_icmp .ge 114, 3) := by decide +kernel
theorem d_Md_bestFilter_13 : decode prog_14_method_79_code 13 = .ok (.iconst 0, 1) := by decide +kernel
theorem d_Md_bestFilter_14 : decode prog_14_method_79_code 14 = .ok (.istore 5, 2) := by decide +kernel
theorem d_Md_bestFilter_16 : decode prog_14_method_79_code 16 = .ok (.iconst 0, 1) := by decide +kernel
theorem d_Md_bestFilter_17 : decode prog_14_method_79_code 17 = .ok (.istore 6, 2) := by decide +kernel
theorem d_Md_bestFilter_19 : decode prog_14_method_79_code 19 = .ok (.iload 6, 2) := by decide +kernel
theorem d_Md_bestFilter_21 : decode prog_14_method_79_code 21 = .ok (.aload_n 0, 1) := by decide +kernel
theorem d_Md_bestFilter_22 : decode prog_14_method_79_code 22 = .ok (.getfield 52, 3) := by decide +kernel
theorem d_Md_bestFilter_25 : decode prog_14_method_79_code 25 = .ok (.iload_n 1, 1) := by decide +kernel
theorem d_Md_bestFilter_26 : decode prog_14_method_79_code 26 = .ok (.iaload, 1) := by decide +kernel
theorem d_Md_bestFilter_27 : decode prog_14_method_79_code 27 = .ok (.if_icmp .ge 55, 3) := by decide +kernel
theorem d_Md_bestFilter_30 : decode prog_14_method_79_code 30 = .ok (.aload_n 0, 1) := by decide +kernel
theorem d_Md_bestFilter_31 : decode prog_14_method_79_code 31 = .ok (.iload_n 1, 1) := by decide +kernel
theorem d_Md_bestFilter_32 : decode prog_14_method_79_code 32 = .ok (.iload 6, 2) := by decide +kernel
theorem d_Md_bestFilter_34 : decode prog_14_method_79_code 34 = .ok (.invokevirtual 323, 3) := by decide +kernel
theorem d_Md_bestFilter_37 : decode prog_14_method_79_code 37 = .ok (.aload_n 0, 1) := by decide +kernel
theorem d_Md_bestFilter_38 : decode prog_14_method_79_code 38 = .ok (.iload 4, 2) := by decide +kernel
theorem d_Md_bestFilter_40 : decode prog_14_method_79_code 40 = .ok (.iload_n 1, 1) := by decide +kernel
theorem d_Md_bestFilter_41 : decode prog_14_method_79_code 41 = .ok (.iload 6, 2) := by decide +kernel
theorem d_Md_bestFilter_43 : decode prog_14_method_79_code 43 = .ok (.invokevirtual 329, 3) := by decide +kernel
theorem d_Md_bestFilter_46 : decode prog_14_method_79_code 46 = .ok (.isub, 1) := by decide +kernel
theorem d_Md_bestFilter_47 : decode prog_14_method_79_code 47 = .ok (.sipush 255, 3) := by decide +kernel
theorem d_Md_bestFilter_50 : decode prog_14_method_79_code 50 = .ok (.iand, 1) := by decide +kernel
theorem d_Md_bestFilter_51 : decode prog_14_method_79_code 51 = .ok (.istore 7, 2) := by decide +kernel
theorem d_Md_bestFilter_53 : decode prog_14_method_79_code 53 = .ok (.iload 5, 2) := by decide +kernel
theorem d_Md_bestFilter_55 : decode prog_14_method_79_code 55 = .ok (.iload 7, 2) := by decide +kernel
theorem d_Md_bestFilter_57 : decode prog_14_method_79_code 57 = .ok (.bipush 127, 2) := by decide +kernel
theorem d_Md_bestFilter_59 : decode prog_14_method_79_code 59 = .ok (.if_icmp .le 12, 3) := by decide +kernel
theorem d_Md_bestFilter_62 : decode prog_14_method_79_code 62 = .ok (.sipush 256, 3) := by decide +kernel
theorem d_Md_bestFilter_65 : decode prog_14_method_79_code 65 = .ok (.iload 7, 2) := by decide +kernel
theorem d_Md_bestFilter_67 : decode prog_14_method_79_code 67 = .ok (.isub, 1) := by decide +kernel
theorem d_Md_bestFilter_68 : decode prog_14_method_79_code 68 = .ok (.goto 5, 3) := by decide +kernel
theorem d_Md_bestFilter_71 : decode prog_14_method_79_code 71 = .ok (.iload 7, 2) := by decide +kernel
theorem d_Md_bestFilter_73 : decode prog_14_method_79_code 73 = .ok (.iadd, 1) := by decide +kernel
theorem d_Md_bestFilter_74 : decode prog_14_method_79_code 74 = .ok (.istore 5, 2) := by decide +kernel
theorem d_Md_bestFilter_76 : decode prog_14_method_79_code 76 = .ok (.iinc 6 1, 3) := by decide +kernel
theorem d_Md_bestFilter_79 : decode prog_14_method_79_code 79 = .ok (.goto (-60), 3) := by decide +kernel
theorem d_Md_bestFilter_82 : decode prog_14_method_79_code 82 = .ok (.iload 4, 2) := by decide +kernel
theorem d_Md_bestFilter_84 : decode prog_14_method_79_code 84 = .ok (.ifCond .eq 9, 3) := by decide +kernel
theorem d_Md_bestFilter_87 : decode prog_14_method_79_code 87 = .ok (.iload 5, 2) := by decide +kernel
theorem d_Md_bestFilter_89 : decode prog_14_method_79_code 89 = .ok (.iload_n 3, 1) := by decide +kernel
theorem d_Md_bestFilter_90 : decode prog_14_method_79_code 90 = .ok (.if_icmp .ge 8, 3) := by decide +kernel
theorem d_Md_bestFilter_93 : decode prog_14_method_79_code 93 = .ok (.iload 4, 2) := by decide +kernel
theorem d_Md_bestFilter_95 : decode prog_14_method_79_code 95 = .ok (.goto 4, 3) := by decide +kernel
theorem d_Md_bestFilter_98 : decode prog_14_method_79_code 98 = .ok (.iload_n 2, 1) := by decide +kernel
theorem d_Md_bestFilter_99 : decode prog_14_method_79_code 99 = .ok (.istore_n 2, 1) := by decide +kernel
theorem d_Md_bestFilter_100 : decode prog_14_method_79_code 100 = .ok (.iload 4, 2) := by decide +kernel
theorem d_Md_bestFilter_102 : decode prog_14_method_79_code 102 = .ok (.ifCond .eq 9, 3) := by decide +kernel
theorem d_Md_bestFilter_105 : decode prog_14_method_79_code 105 = .ok (.iload 5, 2) := by decide +kernel
theorem d_Md_bestFilter_107 : decode prog_14_method_79_code 107 = .ok (.iload_n 3, 1) := by decide +kernel
theorem d_Md_bestFilter_108 : decode prog_14_method_79_code 108 = .ok (.if_icmp .ge 8, 3) := by decide +kernel
theorem d_Md_bestFilter_111 : decode prog_14_method_79_code 111 = .ok (.iload 5, 2) := by decide +kernel
theorem d_Md_bestFilter_113 : decode prog_14_method_79_code 113 = .ok (.goto 4, 3) := by decide +kernel
theorem d_Md_bestFilter_116 : decode prog_14_method_79_code 116 = .ok (.iload_n 3, 1) := by decide +kernel
theorem d_Md_bestFilter_117 : decode prog_14_method_79_code 117 = .ok (.istore_n 3, 1) := by decide +kernel
theorem d_Md_bestFilter_118 : decode prog_14_method_79_code 118 = .ok (.iinc 4 1, 3) := by decide +kernel
theorem d_Md_bestFilter_121 : decode prog_14_method_79_code 121 = .ok (.goto (-114), 3) := by decide +kernel
theorem d_Md_bestFilter_124 : decode prog_14_method_79_code 124 = .ok (.iload_n 2, 1) := by decide +kernel
theorem d_Md_bestFilter_125 : decode prog_14_method_79_code 125 = .ok (.ireturn, 1) := by decide +kernel
set_option maxRecDepth 100000 in
set_option maxHeartbeats 4000000 in
theorem c_Md_bestFilter {l0 : Launch} (hl : l0.stackTraces = false) (n : Nat) (ids : List Nat) {t : Nat} (ht : mm_ok ids t 1 12) (a0 : Int32) (σ : Mm) : kw_C l0 y_Md_bestFilter (Cond.code y_Md_bestFilter prog_14_method_79_code 8 (some .int) :: kw_Ts) rm_Md_bestFilter kw_oi ids [] [.ref t, .int a0] σ (F_Md_bestFilter n t a0 σ) := by
  refine kw_start (L0 := [some (.ref t), some (.int a0), none, none, none, none, none, none]) hl (by decide +kernel) (Nat.le_of_ble_eq_true rfl) rfl (fun Γ ad C Ce => ?_)
  unfold F_Md_bestFilter
  refine kw_iconst (v := 0) C d_Md_bestFilter_0 (by decide) ?_
  refine kw_istore_n (L' := [some (.ref t), some (.int a0), some (.int 0), none, none, none, none, none]) C d_Md_bestFilter_1 (by decide) rfl ?_
  refine kw_iconst (v := 0) C d_Md_bestFilter_2 (by decide) ?_
  refine kw_istore_n (L' := [some (.ref t), some (.int a0), some (.int 0), some (.int 0), none, none, none, none]) C d_Md_bestFilter_3 (by decide) rfl ?_
  refine kw_iconst (v := 0) C d_Md_bestFilter_4 (by decide) ?_
  refine kw_istore (L' := [some (.ref t), some (.int a0), some (.int 0), some (.int 0), some (.int 0), none, none, none]) C d_Md_bestFilter_5 (by decide) rfl ?_
  refine kw_wk (kw_l (α := Int32 × Int32 × Int32) (pc := 7) (Lj := fun x2 => [some (.ref t), some (.int a0), some (.int x2.1), some (.int x2.2.1), some (.int x2.2.2), none, none, none]) (stj := fun x2 => []) (fun k1 hk1 x2 σ3 => ?_) n (0, 0, 0) σ) ⟨Or.inr rfl, Or.inr rfl, Or.inr rfl, Or.inr rfl, Or.inr rfl, Or.inl rfl, Or.inl rfl, Or.inl rfl, trivial⟩
  refine kw_iload C d_Md_bestFilter_7 rfl ?_
  refine kw_iconst (v := 5) C d_Md_bestFilter_9 (by decide) ?_
  refine kw_icmp_ge (tgt := 124) C d_Md_bestFilter_10 (by decide) ?_ ?_
  · refine kw_iload_n C d_Md_bestFilter_124 rfl ?_
    exact kw_iret C Ce rfl (by simp) (fun _ _ => rfl) (Nat.le_of_ble_eq_true rfl) (Nat.le_of_ble_eq_true rfl) rfl d_Md_bestFilter_125
  · refine kw_iconst (v := 0) C d_Md_bestFilter_13 (by decide) ?_
    refine kw_istore (L' := [some (.ref t), some (.int a0), some (.int x2.1), some (.int x2.2.1), some (.int x2.2.2), some (.int 0), none, none]) C d_Md_bestFilter_14 (by decide) rfl ?_
    refine kw_iconst (v := 0) C d_Md_bestFilter_16 (by decide) ?_
    refine kw_istore (L' := [some (.ref t), some (.int a0), some (.int x2.1), some (.int x2.2.1), some (.int x2.2.2), some (.int 0), some (.int 0), none]) C d_Md_bestFilter_17 (by decide) rfl ?_
    refine kw_wk (kw_l (α := Int32 × Int32) (pc := 19) (Lj := fun x5 => [some (.ref t), some (.int a0), some (.int x2.1), some (.int x2.2.1), some (.int x2.2.2), some (.int x5.1), some (.int x5.2), none]) (stj := fun x5 => []) (fun k4 hk4 x5 σ6 => ?_) n (0, 0) σ3) ⟨Or.inr rfl, Or.inr rfl, Or.inr rfl, Or.inr rfl, Or.inr rfl, Or.inr rfl, Or.inr rfl, Or.inl rfl, trivial⟩
    refine kw_iload C d_Md_bestFilter_19 rfl ?_
    refine kw_aload_n C d_Md_bestFilter_21 rfl ?_
    refine kw_getR C fi_Md_52 rfl rfl ht d_Md_bestFilter_22 (fun o7 ho7 => ?_)
    refine kw_iload_n C d_Md_bestFilter_25 rfl ?_
    refine kw_iald C (Or.inl ⟨ho7.1, ho7.2.1⟩) d_Md_bestFilter_26 ?_
    refine kw_icmp_ge (tgt := 82) C d_Md_bestFilter_27 (by decide) ?_ ?_
    · refine kw_iload C d_Md_bestFilter_82 rfl ?_
      refine kw_j (α := Int32) (pcj := 99) (Lj := fun x9 => [some (.ref t), some (.int a0), none, some (.int x2.2.1), some (.int x2.2.2), some (.int x5.1), none, none]) (stj := fun x9 => [.int x9]) (fun x9 σ10 => ?_) (fun k8 hk8 => ?_)
      · refine kw_istore_n (L' := [some (.ref t), some (.int a0), some (.int x9), some (.int x2.2.1), some (.int x2.2.2), some (.int x5.1), none, none]) C d_Md_bestFilter_99 (by decide) rfl ?_
        refine kw_iload C d_Md_bestFilter_100 rfl ?_
        refine kw_j (α := Int32) (pcj := 117) (Lj := fun x12 => [some (.ref t), some (.int a0), some (.int x9), none, some (.int x2.2.2), none, none, none]) (stj := fun x12 => [.int x12]) (fun x12 σ13 => ?_) (fun k11 hk11 => ?_)
        · refine kw_istore_n (L' := [some (.ref t), some (.int a0), some (.int x9), some (.int x12), some (.int x2.2.2), none, none, none]) C d_Md_bestFilter_117 (by decide) rfl ?_
          refine kw_iincL (L2 := fun x14 => [some (.ref t), some (.int a0), some (.int x9), some (.int x12), some (.int x14), none, none, none]) C d_Md_bestFilter_118 (by decide) rfl (fun _ => rfl) (fun x14 => ?_)
          refine kw_goto (tgt := 7) C d_Md_bestFilter_121 (by decide) ?_
          exact kw_wk (hk1 (x9, x12, x14) σ13) ⟨Or.inr rfl, Or.inr rfl, Or.inr rfl, Or.inr rfl, Or.inr rfl, Or.inl rfl, Or.inl rfl, Or.inl rfl, trivial⟩
        · refine kw_j (α := Unit) (pcj := 111) (Lj := fun x16 => [some (.ref t), some (.int a0), some (.int x9), none, some (.int x2.2.2), some (.int x5.1), none, none]) (stj := fun x16 => []) (fun x16 σ17 => ?_) (fun k15 hk15 => ?_)
          · refine kw_iload C d_Md_bestFilter_111 rfl ?_
            refine kw_goto (tgt := 117) C d_Md_bestFilter_113 (by decide) ?_
            exact kw_wk (hk11 x5.1 σ17) ⟨Or.inr rfl, Or.inr rfl, Or.inr rfl, Or.inl rfl, Or.inr rfl, Or.inl rfl, Or.inl rfl, Or.inl rfl, trivial⟩
          · refine kw_if_eq (tgt := 111) C d_Md_bestFilter_102 (by decide) ?_ ?_
            · exact kw_wk (hk15 () σ10) ⟨Or.inr rfl, Or.inr rfl, Or.inr rfl, Or.inl rfl, Or.inr rfl, Or.inr rfl, Or.inl rfl, Or.inl rfl, trivial⟩
            · refine kw_iload C d_Md_bestFilter_105 rfl ?_
              refine kw_iload_n C d_Md_bestFilter_107 rfl ?_
              refine kw_icmp_ge (tgt := 116) C d_Md_bestFilter_108 (by decide) ?_ ?_
              · refine kw_iload_n C d_Md_bestFilter_116 rfl ?_
                exact kw_wk (hk11 x2.2.1 σ10) ⟨Or.inr rfl, Or.inr rfl, Or.inr rfl, Or.inl rfl, Or.inr rfl, Or.inl rfl, Or.inl rfl, Or.inl rfl, trivial⟩
              · exact kw_wk (hk15 () σ10) ⟨Or.inr rfl, Or.inr rfl, Or.inr rfl, Or.inl rfl, Or.inr rfl, Or.inr rfl, Or.inl rfl, Or.inl rfl, trivial⟩
      · refine kw_j (α := Unit) (pcj := 93) (Lj := fun x19 => [some (.ref t), some (.int a0), none, some (.int x2.2.1), some (.int x2.2.2), some (.int x5.1), none, none]) (stj := fun x19 => []) (fun x19 σ20 => ?_) (fun k18 hk18 => ?_)
        · refine kw_iload C d_Md_bestFilter_93 rfl ?_
          refine kw_goto (tgt := 99) C d_Md_bestFilter_95 (by decide) ?_
          exact kw_wk (hk8 x2.2.2 σ20) ⟨Or.inr rfl, Or.inr rfl, Or.inl rfl, Or.inr rfl, Or.inr rfl, Or.inr rfl, Or.inl rfl, Or.inl rfl, trivial⟩
        · refine kw_if_eq (tgt := 93) C d_Md_bestFilter_84 (by decide) ?_ ?_
          · exact kw_wk (hk18 () σ6) ⟨Or.inr rfl, Or.inr rfl, Or.inl rfl, Or.inr rfl, Or.inr rfl, Or.inr rfl, Or.inl rfl, Or.inl rfl, trivial⟩
          · refine kw_iload C d_Md_bestFilter_87 rfl ?_
            refine kw_iload_n C d_Md_bestFilter_89 rfl ?_
            refine kw_icmp_ge (tgt := 98) C d_Md_bestFilter_90 (by decide) ?_ ?_
            · refine kw_iload_n C d_Md_bestFilter_98 rfl ?_
              exact kw_wk (hk8 x2.1 σ6) ⟨Or.inr rfl, Or.inr rfl, Or.inl rfl, Or.inr rfl, Or.inr rfl, Or.inr rfl, Or.inl rfl, Or.inl rfl, trivial⟩
            · exact kw_wk (hk18 () σ6) ⟨Or.inr rfl, Or.inr rfl, Or.inl rfl, Or.inr rfl, Or.inr rfl, Or.inr rfl, Or.inl rfl, Or.inl rfl, trivial⟩
    · refine kw_aload_n C d_Md_bestFilter_30 rfl ?_
      refine kw_iload_n C d_Md_bestFilter_31 rfl ?_
      refine kw_iload C d_Md_bestFilter_32 rfl ?_
      refine kw_callVi (cl' := 0) (sl' := 0) (As := [.int a0, .int x5.2]) C (c_Md_byteOf hl n ids ht a0 x5.2 σ6) mi_Md_323 v_Md_byteOf ⟨_, _, rfl⟩ ht ⟨Nat.le_of_ble_eq_true rfl, Nat.le_of_ble_eq_true rfl⟩ (Nat.le_of_ble_eq_true rfl) ⟨Nat.le_of_ble_eq_true rfl, Nat.le_of_ble_eq_true rfl⟩ ⟨rfl, rfl⟩ rfl d_Md_bestFilter_34 (fun x21 σ22 => ?_)
      refine kw_aload_n C d_Md_bestFilter_37 rfl ?_
      refine kw_iload C d_Md_bestFilter_38 rfl ?_
      refine kw_iload_n C d_Md_bestFilter_40 rfl ?_
      refine kw_iload C d_Md_bestFilter_41 rfl ?_
      refine kw_callVi (cl' := 0) (sl' := 0) (As := [.int x2.2.2, .int a0, .int x5.2]) C (c_Md_guess hl n ids ht x2.2.2 a0 x5.2 σ22) mi_Md_329 v_Md_guess ⟨_, _, rfl⟩ ht ⟨Nat.le_of_ble_eq_true rfl, Nat.le_of_ble_eq_true rfl⟩ (Nat.le_of_ble_eq_true rfl) ⟨Nat.le_of_ble_eq_true rfl, Nat.le_of_ble_eq_true rfl⟩ ⟨rfl, rfl⟩ rfl d_Md_bestFilter_43 (fun x23 σ24 => ?_)
      refine kw_isub C d_Md_bestFilter_46 ?_
      refine kw_sipush (v := 255) C d_Md_bestFilter_47 (by decide) ?_
      refine kw_iand C d_Md_bestFilter_50 ?_
      refine kw_leti (fun x25 => ?_)
      refine kw_istore (L' := [some (.ref t), some (.int a0), some (.int x2.1), some (.int x2.2.1), some (.int x2.2.2), some (.int x5.1), some (.int x5.2), some (.int x25)]) C d_Md_bestFilter_51 (by decide) rfl ?_
      refine kw_iload C d_Md_bestFilter_53 rfl ?_
      refine kw_iload C d_Md_bestFilter_55 rfl ?_
      refine kw_bipush (v := 127) C d_Md_bestFilter_57 (by decide) ?_
      refine kw_j (α := Int32 × Int32) (pcj := 73) (Lj := fun x27 => [some (.ref t), some (.int a0), some (.int x2.1), some (.int x2.2.1), some (.int x2.2.2), none, some (.int x5.2), none]) (stj := fun x27 => [.int x27.2, .int x27.1]) (fun x27 σ28 => ?_) (fun k26 hk26 => ?_)
      · refine kw_iadd C d_Md_bestFilter_73 ?_
        refine kw_leti (fun x29 => ?_)
        refine kw_istore (L' := [some (.ref t), some (.int a0), some (.int x2.1), some (.int x2.2.1), some (.int x2.2.2), some (.int x29), some (.int x5.2), none]) C d_Md_bestFilter_74 (by decide) rfl ?_
        refine kw_iincL (L2 := fun x30 => [some (.ref t), some (.int a0), some (.int x2.1), some (.int x2.2.1), some (.int x2.2.2), some (.int x29), some (.int x30), none]) C d_Md_bestFilter_76 (by decide) rfl (fun _ => rfl) (fun x30 => ?_)
        refine kw_goto (tgt := 19) C d_Md_bestFilter_79 (by decide) ?_
        exact kw_wk (hk4 (x29, x30) σ28) ⟨Or.inr rfl, Or.inr rfl, Or.inr rfl, Or.inr rfl, Or.inr rfl, Or.inr rfl, Or.inr rfl, Or.inl rfl, trivial⟩
      · refine kw_icmp_le (tgt := 71) C d_Md_bestFilter_59 (by decide) ?_ ?_
        · refine kw_iload C d_Md_bestFilter_71 rfl ?_
          exact kw_wk (hk26 (x5.1, x25) σ24) ⟨Or.inr rfl, Or.inr rfl, Or.inr rfl, Or.inr rfl, Or.inr rfl, Or.inl rfl, Or.inr rfl, Or.inl rfl, trivial⟩
        · refine kw_sipush (v := 256) C d_Md_bestFilter_62 (by decide) ?_
          refine kw_iload C d_Md_bestFilter_65 rfl ?_
          refine kw_isub C d_Md_bestFilter_67 ?_
          refine kw_goto (tgt := 73) C d_Md_bestFilter_68 (by decide) ?_
          exact kw_wk (hk26 (x5.1, (256 : Int32) - x25) σ24) ⟨Or.inr rfl, Or.inr rfl, Or.inr rfl, Or.inr rfl, Or.inr rfl, Or.inl rfl, Or.inr rfl, Or.inl rfl, trivial⟩
/-! Md_filter -/
def rm_Md_filter : Room := { frames := 4, cells := 0, slots := 0, locals := 101 }
def F_Md_filter (n : Nat) (t : Nat) (a0 : Int32) (σ : Mm) : Option (Int32 × Mm) :=
kf_j (α := Int32) (fun x2 σ3 =>
kf_let (pS σ3 (64 * t + 0) x2) fun σ4 =>
if (gS σ4 (64 * t + 0)) ≤ 0 then (
Option.bind (F_Md_lay n t σ4) fun σ5 =>
kf_j (α := Int32) (fun x7 σ8 =>
kf_let (pS σ8 (64 * t + 0) x7) fun σ9 =>
kf_j (α := Int32) (fun x11 σ12 =>
some (x11, σ12)) fun k10 =>
if (gS σ9 (64 * t + 0)) ≤ 0 then (
kf_c2 (F_Md_bestFilter n t a0 σ9) fun x13 σ14 =>
k10 x13 σ14) else (
k10 0 σ9)) fun k6 =>
kf_j (α := Unit) (fun x16 σ17 =>
k6 2 σ17) fun k15 =>
if a0 < 0 then (
k15 () σ5) else (
if a0 < (gS σ5 (64 * t + 38)) then (
k6 0 σ5) else (
k15 () σ5))) else (
some (0, σ4))) fun k1 =>
if (gS σ (64 * t + 5)) = 0 then (
k1 1 σ) else (
k1 0 σ)
theorem d_Md_filter_0 : decode prog_14_method_80_code 0 = .ok (.aload_n 0, 1) := by decide +kernel
theorem d_Md_filter_1 : decode prog_14_method_80_code 1 = .ok (.aload_n 0, 1) := by decide +kernel
theorem d_Md_filter_2 : decode prog_14_method_80_code 2 = .ok (.getfield 354, 3) := by decide +kernel
theorem d_Md_filter_5 : decode prog_14_method_80_code 5 = .ok (.ifCond .eq 7, 3) := by decide +kernel
theorem d_Md_filter_8 : decode prog_14_method_80_code 8 = .ok (.iconst 0, 1) := by decide +kernel
theorem d_Md_filter_9 : decode prog_14_method_80_code 9 = .ok (.goto 4, 3) := by decide +kernel
theorem d_Md_filter_12 : decode prog_14_method_80_code 12 = .ok (.iconst 1, 1) := by decide +kernel
theorem d_Md_filter_13 : decode prog_14_method_80_code 13 = .ok (.putfield 67, 3) := by decide +kernel
theorem d_Md_filter_16 : decode prog_14_method_80_code 16 = .ok (.aload_n 0, 1) := by decide +kernel
theorem d_Md_filter_17 : decode prog_14_method_80_code 17 = .ok (.getfield 67, 3) := by decide +kernel
theorem d_Md_filter_20 : decode prog_14_method_80_code 20 = .ok (.ifCond .le 5, 3) := by decide +kernel
theorem d_Md_filter_23 : decode prog_14_method_80_code 23 = .ok (.iconst 0, 1) := by decide +kernel
theorem d_Md_filter_24 : decode prog_14_method_80_code 24 = .ok (.ireturn, 1) := by decide +kernel
theorem d_Md_filter_25 : decode prog_14_method_80_code 25 = .ok (.aload_n 0, 1) := by decide +kernel
theorem d_Md_filter_26 : decode prog_14_method_80_code 26 = .ok (.invokevirtual 391, 3) := by decide +kernel
theorem d_Md_filter_29 : decode prog_14_method_80_code 29 = .ok (.aload_n 0, 1) := by decide +kernel
theorem d_Md_filter_30 : decode prog_14_method_80_code 30 = .ok (.iload_n 1, 1) := by decide +kernel
theorem d_Md_filter_31 : decode prog_14_method_80_code 31 = .ok (.ifCond .lt 11, 3) := by decide +kernel
theorem d_Md_filter_34 : decode prog_14_method_80_code 34 = .ok (.iload_n 1, 1) := by decide +kernel
theorem d_Md_filter_35 : decode prog_14_method_80_code 35 = .ok (.aload_n 0, 1) := by decide +kernel
theorem d_Md_filter_36 : decode prog_14_method_80_code 36 = .ok (.getfield 97, 3) := by decide +kernel
theorem d_Md_filter_39 : decode prog_14_method_80_code 39 = .ok (.if_icmp .lt 7, 3) := by decide +kernel
theorem d_Md_filter_42 : decode prog_14_method_80_code 42 = .ok (.iconst 2, 1) := by decide +kernel
theorem d_Md_filter_43 : decode prog_14_method_80_code 43 = .ok (.goto 4, 3) := by decide +kernel
theorem d_Md_filter_46 : decode prog_14_method_80_code 46 = .ok (.iconst 0, 1) := by decide +kernel
theorem d_Md_filter_47 : decode prog_14_method_80_code 47 = .ok (.putfield 67, 3) := by decide +kernel
theorem d_Md_filter_50 : decode prog_14_method_80_code 50 = .ok (.aload_n 0, 1) := by decide +kernel
theorem d_Md_filter_51 : decode prog_14_method_80_code 51 = .ok (.getfield 67, 3) := by decide +kernel
theorem d_Md_filter_54 : decode prog_14_method_80_code 54 = .ok (.ifCond .le 7, 3) := by decide +kernel
theorem d_Md_filter_57 : decode prog_14_method_80_code 57 = .ok (.iconst 0, 1) := by decide +kernel
theorem d_Md_filter_58 : decode prog_14_method_80_code 58 = .ok (.goto 8, 3) := by decide +kernel
theorem d_Md_filter_61 : decode prog_14_method_80_code 61 = .ok (.aload_n 0, 1) := by decide +kernel
theorem d_Md_filter_62 : decode prog_14_method_80_code 62 = .ok (.iload_n 1, 1) := by decide +kernel
theorem d_Md_filter_63 : decode prog_14_method_80_code 63 = .ok (.invokevirtual 394, 3) := by decide +kernel
theorem d_Md_filter_66 : decode prog_14_method_80_code 66 = .ok (.ireturn, 1) := by decide +kernel
set_option maxRecDepth 100000 in
set_option maxHeartbeats 4000000 in
theorem c_Md_filter {l0 : Launch} (hl : l0.stackTraces = false) (n : Nat) (ids : List Nat) {t : Nat} (ht : mm_ok ids t 1 12) (a0 : Int32) (σ : Mm) : kw_C l0 y_Md_filter (Cond.code y_Md_filter prog_14_method_80_code 2 (some .int) :: kw_Ts) rm_Md_filter kw_oi ids [] [.ref t, .int a0] σ (F_Md_filter n t a0 σ) := by
  refine kw_start (L0 := [some (.ref t), some (.int a0)]) hl (by decide +kernel) (Nat.le_of_ble_eq_true rfl) rfl (fun Γ ad C Ce => ?_)
  unfold F_Md_filter
  refine kw_aload_n C d_Md_filter_0 rfl ?_
  refine kw_aload_n C d_Md_filter_1 rfl ?_
  refine kw_getI C fi_Md_354 (Or.inr rfl) ht d_Md_filter_2 ?_
  refine kw_j (α := Int32) (pcj := 13) (Lj := fun x2 => [some (.ref t), some (.int a0)]) (stj := fun x2 => [.int x2, .ref t]) (fun x2 σ3 => ?_) (fun k1 hk1 => ?_)
  · refine kw_putI C fi_Md_67 rfl ht d_Md_filter_13 (fun σ4 => ?_)
    refine kw_aload_n C d_Md_filter_16 rfl ?_
    refine kw_getI C fi_Md_67 (Or.inl rfl) ht d_Md_filter_17 ?_
    refine kw_if_le (tgt := 25) C d_Md_filter_20 (by decide) ?_ ?_
    · refine kw_aload_n C d_Md_filter_25 rfl ?_
      refine kw_callVv (cl' := 0) (sl' := 0) (As := []) C (c_Md_lay hl n ids ht  σ4) mi_Md_391 v_Md_lay ⟨_, _, rfl⟩ ht ⟨Nat.le_of_ble_eq_true rfl, Nat.le_of_ble_eq_true rfl⟩ (Nat.le_of_ble_eq_true rfl) ⟨Nat.le_of_ble_eq_true rfl, Nat.le_of_ble_eq_true rfl⟩ ⟨rfl, rfl⟩ rfl d_Md_filter_26 (fun σ5 => ?_)
      refine kw_aload_n C d_Md_filter_29 rfl ?_
      refine kw_iload_n C d_Md_filter_30 rfl ?_
      refine kw_j (α := Int32) (pcj := 47) (Lj := fun x7 => [some (.ref t), some (.int a0)]) (stj := fun x7 => [.int x7, .ref t]) (fun x7 σ8 => ?_) (fun k6 hk6 => ?_)
      · refine kw_putI C fi_Md_67 rfl ht d_Md_filter_47 (fun σ9 => ?_)
        refine kw_aload_n C d_Md_filter_50 rfl ?_
        refine kw_getI C fi_Md_67 (Or.inl rfl) ht d_Md_filter_51 ?_
        refine kw_j (α := Int32) (pcj := 66) (Lj := fun x11 => [none, none]) (stj := fun x11 => [.int x11]) (fun x11 σ12 => ?_) (fun k10 hk10 => ?_)
        · exact kw_iret C Ce rfl (by simp) (fun _ _ => rfl) (Nat.le_of_ble_eq_true rfl) (Nat.le_of_ble_eq_true rfl) rfl d_Md_filter_66
        · refine kw_if_le (tgt := 61) C d_Md_filter_54 (by decide) ?_ ?_
          · refine kw_aload_n C d_Md_filter_61 rfl ?_
            refine kw_iload_n C d_Md_filter_62 rfl ?_
            refine kw_callVi (cl' := 0) (sl' := 0) (As := [.int a0]) C (c_Md_bestFilter hl n ids ht a0 σ9) mi_Md_394 v_Md_bestFilter ⟨_, _, rfl⟩ ht ⟨Nat.le_of_ble_eq_true rfl, Nat.le_of_ble_eq_true rfl⟩ (Nat.le_of_ble_eq_true rfl) ⟨Nat.le_of_ble_eq_true rfl, Nat.le_of_ble_eq_true rfl⟩ ⟨rfl, rfl⟩ rfl d_Md_filter_63 (fun x13 σ14 => ?_)
            exact kw_wk (hk10 x13 σ14) ⟨Or.inl rfl, Or.inl rfl, trivial⟩
          · refine kw_iconst (v := 0) C d_Md_filter_57 (by decide) ?_
            refine kw_goto (tgt := 66) C d_Md_filter_58 (by decide) ?_
            exact kw_wk (hk10 0 σ9) ⟨Or.inl rfl, Or.inl rfl, trivial⟩
      · refine kw_j (α := Unit) (pcj := 42) (Lj := fun x16 => [some (.ref t), some (.int a0)]) (stj := fun x16 => [.ref t]) (fun x16 σ17 => ?_) (fun k15 hk15 => ?_)
        · refine kw_iconst (v := 2) C d_Md_filter_42 (by decide) ?_
          refine kw_goto (tgt := 47) C d_Md_filter_43 (by decide) ?_
          exact kw_wk (hk6 2 σ17) ⟨Or.inr rfl, Or.inr rfl, trivial⟩
        · refine kw_if_lt (tgt := 42) C d_Md_filter_31 (by decide) ?_ ?_
          · exact kw_wk (hk15 () σ5) ⟨Or.inr rfl, Or.inr rfl, trivial⟩
          · refine kw_iload_n C d_Md_filter_34 rfl ?_
            refine kw_aload_n C d_Md_filter_35 rfl ?_
            refine kw_getI C fi_Md_97 (Or.inl rfl) ht d_Md_filter_36 ?_
            refine kw_icmp_lt (tgt := 46) C d_Md_filter_39 (by decide) ?_ ?_
            · refine kw_iconst (v := 0) C d_Md_filter_46 (by decide) ?_
              exact kw_wk (hk6 0 σ5) ⟨Or.inr rfl, Or.inr rfl, trivial⟩
            · exact kw_wk (hk15 () σ5) ⟨Or.inr rfl, Or.inr rfl, trivial⟩
    · refine kw_iconst (v := 0) C d_Md_filter_23 (by decide) ?_
      exact kw_iret C Ce rfl (by simp) (fun _ _ => rfl) (Nat.le_of_ble_eq_true rfl) (Nat.le_of_ble_eq_true rfl) rfl d_Md_filter_24
  · refine kw_if_eq (tgt := 12) C d_Md_filter_5 (by decide) ?_ ?_
    · refine kw_iconst (v := 1) C d_Md_filter_12 (by decide) ?_
      exact kw_wk (hk1 1 σ) ⟨Or.inr rfl, Or.inr rfl, trivial⟩
    · refine kw_iconst (v := 0) C d_Md_filter_8 (by decide) ?_
      refine kw_goto (tgt := 13) C d_Md_filter_9 (by decide) ?_
      exact kw_wk (hk1 0 σ) ⟨Or.inr rfl, Or.inr rfl, trivial⟩
/-! Md_put -/
def rm_Md_put : Room := { frames := 0, cells := 0, slots := 0, locals := 0 }
def F_Md_put (n : Nat) (t : Nat) (a0 : Int32) (σ : Mm) : Option (Mm) :=
Option.bind (gR σ (64 * t + 1)) fun o1 =>
kf_in (gS σ (64 * t + 2)) (mm_kd o1).2.2 <| kf_let (pB σ o1 (gS σ (64 * t + 2)).toNatClampNeg (vp_nar .byte a0.toInt8.toInt32)) fun σ2 =>
kf_let (pS σ2 (64 * t + 2) ((gS σ2 (64 * t + 2)) + 1)) fun σ3 =>
some σ3
theorem d_Md_put_0 : decode prog_14_method_81_code 0 = .ok (.aload_n 0, 1) := by decide +kernel
theorem d_Md_put_1 : decode prog_14_method_81_code 1 = .ok (.getfield 8, 3) := by decide +kernel
theorem d_Md_put_4 : decode prog_14_method_81_code 4 = .ok (.aload_n 0, 1) := by decide +kernel
theorem d_Md_put_5 : decode prog_14_method_81_code 5 = .ok (.getfield 71, 3) := by decide +kernel
theorem d_Md_put_8 : decode prog_14_method_81_code 8 = .ok (.iload_n 1, 1) := by decide +kernel
theorem d_Md_put_9 : decode prog_14_method_81_code 9 = .ok (.i2b, 1) := by decide +kernel
theorem d_Md_put_10 : decode prog_14_method_81_code 10 = .ok (.bastore, 1) := by decide +kernel
theorem d_Md_put_11 : decode prog_14_method_81_code 11 = .ok (.aload_n 0, 1) := by decide +kernel
theorem d_Md_put_12 : decode prog_14_method_81_code 12 = .ok (.dup, 1) := by decide +kernel
theorem d_Md_put_13 : decode prog_14_method_81_code 13 = .ok (.getfield 71, 3) := by decide +kernel
theorem d_Md_put_16 : decode prog_14_method_81_code 16 = .ok (.iconst 1, 1) := by decide +kernel
theorem d_Md_put_17 : decode prog_14_method_81_code 17 = .ok (.iadd, 1) := by decide +kernel
theorem d_Md_put_18 : decode prog_14_method_81_code 18 = .ok (.putfield 71, 3) := by decide +kernel
theorem d_Md_put_21 : decode prog_14_method_81_code 21 = .ok (.return_, 1) := by decide +kernel
set_option maxRecDepth 100000 in
set_option maxHeartbeats 4000000 in
theorem c_Md_put {l0 : Launch} (hl : l0.stackTraces = false) (n : Nat) (ids : List Nat) {t : Nat} (ht : mm_ok ids t 1 12) (a0 : Int32) (σ : Mm) : kw_C l0 y_Md_put (Cond.code y_Md_put prog_14_method_81_code 2 none :: kw_Ts) rm_Md_put kw_ov ids [] [.ref t, .int a0] σ (F_Md_put n t a0 σ) := by
  refine kw_start (L0 := [some (.ref t), some (.int a0)]) hl (by decide +kernel) (Nat.le_of_ble_eq_true rfl) rfl (fun Γ ad C Ce => ?_)
  unfold F_Md_put
  refine kw_aload_n C d_Md_put_0 rfl ?_
  refine kw_getR C fi_Md_8 rfl rfl ht d_Md_put_1 (fun o1 ho1 => ?_)
  refine kw_aload_n C d_Md_put_4 rfl ?_
  refine kw_getI C fi_Md_71 (Or.inl rfl) ht d_Md_put_5 ?_
  refine kw_iload_n C d_Md_put_8 rfl ?_
  refine kw_i2b C d_Md_put_9 ?_
  refine kw_bast C ho1 d_Md_put_10 (fun σ2 => ?_)
  refine kw_aload_n C d_Md_put_11 rfl ?_
  refine kw_dup C d_Md_put_12 rfl ?_
  refine kw_getI C fi_Md_71 (Or.inl rfl) ht d_Md_put_13 ?_
  refine kw_iconst (v := 1) C d_Md_put_16 (by decide) ?_
  refine kw_iadd C d_Md_put_17 ?_
  refine kw_putI C fi_Md_71 rfl ht d_Md_put_18 (fun σ3 => ?_)
  exact kw_vret C Ce rfl (by simp) (fun _ _ => rfl) (Nat.le_of_ble_eq_true rfl) (Nat.le_of_ble_eq_true rfl) rfl d_Md_put_21
/-! Md_putLong -/
def rm_Md_putLong : Room := { frames := 1, cells := 0, slots := 0, locals := 21 }
def F_Md_putLong (n : Nat) (t : Nat) (a0 : Int64) (σ : Mm) : Option (Mm) :=
kf_l (α := Int32) n (fun k1 x2 σ3 =>
if x2 < 0 then (
some σ3) else (
Option.bind (F_Md_put n t ((a0 >>> (x2.toInt64 &&& 63)).toInt32) σ3) fun σ4 =>
kf_let (x2 + Int32.ofInt (-8)) fun x5 =>
k1 x5 σ4)) 24 σ
theorem d_Md_putLong_0 : decode prog_14_method_82_code 0 = .ok (.bipush 24, 2) := by decide +kernel
theorem d_Md_putLong_2 : decode prog_14_method_82_code 2 = .ok (.istore_n 3, 1) := by decide +kernel
theorem d_Md_putLong_3 : decode prog_14_method_82_code 3 = .ok (.iload_n 3, 1) := by decide +kernel
theorem d_Md_putLong_4 : decode prog_14_method_82_code 4 = .ok (.ifCond .lt 17, 3) := by decide +kernel
theorem d_Md_putLong_7 : decode prog_14_method_82_code 7 = .ok (.aload_n 0, 1) := by decide +kernel
theorem d_Md_putLong_8 : decode prog_14_method_82_code 8 = .ok (.lload_n 1, 1) := by decide +kernel
theorem d_Md_putLong_9 : decode prog_14_method_82_code 9 = .ok (.iload_n 3, 1) := by decide +kernel
theorem d_Md_putLong_10 : decode prog_14_method_82_code 10 = .ok (.lshr, 1) := by decide +kernel
theorem d_Md_putLong_11 : decode prog_14_method_82_code 11 = .ok (.l2i, 1) := by decide +kernel
theorem d_Md_putLong_12 : decode prog_14_method_82_code 12 = .ok (.invokevirtual 397, 3) := by decide +kernel
theorem d_Md_putLong_15 : decode prog_14_method_82_code 15 = .ok (.iinc 3 (-8), 3) := by decide +kernel
theorem d_Md_putLong_18 : decode prog_14_method_82_code 18 = .ok (.goto (-15), 3) := by decide +kernel
theorem d_Md_putLong_21 : decode prog_14_method_82_code 21 = .ok (.return_, 1) := by decide +kernel
set_option maxRecDepth 100000 in
set_option maxHeartbeats 4000000 in
theorem c_Md_putLong {l0 : Launch} (hl : l0.stackTraces = false) (n : Nat) (ids : List Nat) {t : Nat} (ht : mm_ok ids t 1 12) (a0 : Int64) (σ : Mm) : kw_C l0 y_Md_putLong (Cond.code y_Md_putLong prog_14_method_82_code 4 none :: kw_Ts) rm_Md_putLong kw_ov ids [] [.ref t, .long a0] σ (F_Md_putLong n t a0 σ) := by
  refine kw_start (L0 := [some (.ref t), some (.long a0), none, none]) hl (by decide +kernel) (Nat.le_of_ble_eq_true rfl) rfl (fun Γ ad C Ce => ?_)
  unfold F_Md_putLong
  refine kw_bipush (v := 24) C d_Md_putLong_0 (by decide) ?_
  refine kw_istore_n (L' := [some (.ref t), some (.long a0), none, some (.int 24)]) C d_Md_putLong_2 (by decide) rfl ?_
  refine kw_wk (kw_l (α := Int32) (pc := 3) (Lj := fun x2 => [some (.ref t), some (.long a0), none, some (.int x2)]) (stj := fun x2 => []) (fun k1 hk1 x2 σ3 => ?_) n 24 σ) ⟨Or.inr rfl, Or.inr rfl, Or.inl rfl, Or.inr rfl, trivial⟩
  refine kw_iload_n C d_Md_putLong_3 rfl ?_
  refine kw_if_lt (tgt := 21) C d_Md_putLong_4 (by decide) ?_ ?_
  · exact kw_vret C Ce rfl (by simp) (fun _ _ => rfl) (Nat.le_of_ble_eq_true rfl) (Nat.le_of_ble_eq_true rfl) rfl d_Md_putLong_21
  · refine kw_aload_n C d_Md_putLong_7 rfl ?_
    refine kw_lload_n C d_Md_putLong_8 rfl ?_
    refine kw_iload_n C d_Md_putLong_9 rfl ?_
    refine kw_lshr C d_Md_putLong_10 ?_
    refine kw_l2i C d_Md_putLong_11 ?_
    refine kw_callVv (cl' := 0) (sl' := 0) (As := [.int ((a0 >>> (x2.toInt64 &&& 63)).toInt32)]) C (c_Md_put hl n ids ht ((a0 >>> (x2.toInt64 &&& 63)).toInt32) σ3) mi_Md_397 v_Md_put ⟨_, _, rfl⟩ ht ⟨Nat.le_of_ble_eq_true rfl, Nat.le_of_ble_eq_true rfl⟩ (Nat.le_of_ble_eq_true rfl) ⟨Nat.le_of_ble_eq_true rfl, Nat.le_of_ble_eq_true rfl⟩ ⟨rfl, rfl⟩ rfl d_Md_putLong_12 (fun σ4 => ?_)
    refine kw_iincL (L2 := fun x5 => [some (.ref t), some (.long a0), none, some (.int x5)]) C d_Md_putLong_15 (by decide) rfl (fun _ => rfl) (fun x5 => ?_)
    refine kw_goto (tgt := 3) C d_Md_putLong_18 (by decide) ?_
    exact kw_wk (hk1 x5 σ4) ⟨Or.inr rfl, Or.inr rfl, Or.inl rfl, Or.inr rfl, trivial⟩
/-! Md_beginPiece -/
def rm_Md_beginPiece : Room := { frames := 2, cells := 0, slots := 0, locals := 44 }
def F_Md_beginPiece (n : Nat) (t : Nat) (a0 : Int32) (a1 : Int32) (a2 : Int32) (a3 : Int32) (σ : Mm) : Option (Mm) :=
kf_let (pS σ (64 * t + 54) (gS σ (64 * t + 2))) fun σ1 =>
Option.bind (F_Md_putLong n t 0 σ1) fun σ2 =>
Option.bind (F_Md_put n t a0 σ2) fun σ3 =>
Option.bind (F_Md_put n t a1 σ3) fun σ4 =>
Option.bind (F_Md_put n t a2 σ4) fun σ5 =>
Option.bind (F_Md_put n t a3 σ5) fun σ6 =>
some σ6
theorem d_Md_beginPiece_0 : decode prog_14_method_83_code 0 = .ok (.aload_n 0, 1) := by decide +kernel
theorem d_Md_beginPiece_1 : decode prog_14_method_83_code 1 = .ok (.aload_n 0, 1) := by decide +kernel
theorem d_Md_beginPiece_2 : decode prog_14_method_83_code 2 = .ok (.getfield 71, 3) := by decide +kernel
theorem d_Md_beginPiece_5 : decode prog_14_method_83_code 5 = .ok (.putfield 401, 3) := by decide +kernel
theorem d_Md_beginPiece_8 : decode prog_14_method_83_code 8 = .ok (.aload_n 0, 1) := by decide +kernel
theorem d_Md_beginPiece_9 : decode prog_14_method_83_code 9 = .ok (.lconst 0, 1) := by decide +kernel
theorem d_Md_beginPiece_10 : decode prog_14_method_83_code 10 = .ok (.invokevirtual 404, 3) := by decide +kernel
theorem d_Md_beginPiece_13 : decode prog_14_method_83_code 13 = .ok (.aload_n 0, 1) := by decide +kernel
theorem d_Md_beginPiece_14 : decode prog_14_method_83_code 14 = .ok (.iload_n 1, 1) := by decide +kernel
theorem d_Md_beginPiece_15 : decode prog_14_method_83_code 15 = .ok (.invokevirtual 397, 3) := by decide +kernel
theorem d_Md_beginPiece_18 : decode prog_14_method_83_code 18 = .ok (.aload_n 0, 1) := by decide +kernel
theorem d_Md_beginPiece_19 : decode prog_14_method_83_code 19 = .ok (.iload_n 2, 1) := by decide +kernel
theorem d_Md_beginPiece_20 : decode prog_14_method_83_code 20 = .ok (.invokevirtual 397, 3) := by decide +kernel
theorem d_Md_beginPiece_23 : decode prog_14_method_83_code 23 = .ok (.aload_n 0, 1) := by decide +kernel
theorem d_Md_beginPiece_24 : decode prog_14_method_83_code 24 = .ok (.iload_n 3, 1) := by decide +kernel
theorem d_Md_beginPiece_25 : decode prog_14_method_83_code 25 = .ok (.invokevirtual 397, 3) := by decide +kernel
theorem d_Md_beginPiece_28 : decode prog_14_method_83_code 28 = .ok (.aload_n 0, 1) := by decide +kernel
theorem d_Md_beginPiece_29 : decode prog_14_method_83_code 29 = .ok (.iload 4, 2) := by decide +kernel
theorem d_Md_beginPiece_31 : decode prog_14_method_83_code 31 = .ok (.invokevirtual 397, 3) := by decide +kernel
theorem d_Md_beginPiece_34 : decode prog_14_method_83_code 34 = .ok (.return_, 1) := by decide +kernel
set_option maxRecDepth 100000 in
set_option maxHeartbeats 4000000 in
theorem c_Md_beginPiece {l0 : Launch} (hl : l0.stackTraces = false) (n : Nat) (ids : List Nat) {t : Nat} (ht : mm_ok ids t 1 12) (a0 : Int32) (a1 : Int32) (a2 : Int32) (a3 : Int32) (σ : Mm) : kw_C l0 y_Md_beginPiece (Cond.code y_Md_beginPiece prog_14_method_83_code 5 none :: kw_Ts) rm_Md_beginPiece kw_ov ids [] [.ref t, .int a0, .int a1, .int a2, .int a3] σ (F_Md_beginPiece n t a0 a1 a2 a3 σ) := by
  refine kw_start (L0 := [some (.ref t), some (.int a0), some (.int a1), some (.int a2), some (.int a3)]) hl (by decide +kernel) (Nat.le_of_ble_eq_true rfl) rfl (fun Γ ad C Ce => ?_)
  unfold F_Md_beginPiece
  refine kw_aload_n C d_Md_beginPiece_0 rfl ?_
  refine kw_aload_n C d_Md_beginPiece_1 rfl ?_
  refine kw_getI C fi_Md_71 (Or.inl rfl) ht d_Md_beginPiece_2 ?_
  refine kw_putI C fi_Md_401 rfl ht d_Md_beginPiece_5 (fun σ1 => ?_)
  refine kw_aload_n C d_Md_beginPiece_8 rfl ?_
  refine kw_lconst (v := 0) C d_Md_beginPiece_9 (by decide) ?_
  refine kw_callVv (cl' := 0) (sl' := 0) (As := [.long 0]) C (c_Md_putLong hl n ids ht 0 σ1) mi_Md_404 v_Md_putLong ⟨_, _, rfl⟩ ht ⟨Nat.le_of_ble_eq_true rfl, Nat.le_of_ble_eq_true rfl⟩ (Nat.le_of_ble_eq_true rfl) ⟨Nat.le_of_ble_eq_true rfl, Nat.le_of_ble_eq_true rfl⟩ ⟨rfl, rfl⟩ rfl d_Md_beginPiece_10 (fun σ2 => ?_)
  refine kw_aload_n C d_Md_beginPiece_13 rfl ?_
  refine kw_iload_n C d_Md_beginPiece_14 rfl ?_
  refine kw_callVv (cl' := 0) (sl' := 0) (As := [.int a0]) C (c_Md_put hl n ids ht a0 σ2) mi_Md_397 v_Md_put ⟨_, _, rfl⟩ ht ⟨Nat.le_of_ble_eq_true rfl, Nat.le_of_ble_eq_true rfl⟩ (Nat.le_of_ble_eq_true rfl) ⟨Nat.le_of_ble_eq_true rfl, Nat.le_of_ble_eq_true rfl⟩ ⟨rfl, rfl⟩ rfl d_Md_beginPiece_15 (fun σ3 => ?_)
  refine kw_aload_n C d_Md_beginPiece_18 rfl ?_
  refine kw_iload_n C d_Md_beginPiece_19 rfl ?_
  refine kw_callVv (cl' := 0) (sl' := 0) (As := [.int a1]) C (c_Md_put hl n ids ht a1 σ3) mi_Md_397 v_Md_put ⟨_, _, rfl⟩ ht ⟨Nat.le_of_ble_eq_true rfl, Nat.le_of_ble_eq_true rfl⟩ (Nat.le_of_ble_eq_true rfl) ⟨Nat.le_of_ble_eq_true rfl, Nat.le_of_ble_eq_true rfl⟩ ⟨rfl, rfl⟩ rfl d_Md_beginPiece_20 (fun σ4 => ?_)
  refine kw_aload_n C d_Md_beginPiece_23 rfl ?_
  refine kw_iload_n C d_Md_beginPiece_24 rfl ?_
  refine kw_callVv (cl' := 0) (sl' := 0) (As := [.int a2]) C (c_Md_put hl n ids ht a2 σ4) mi_Md_397 v_Md_put ⟨_, _, rfl⟩ ht ⟨Nat.le_of_ble_eq_true rfl, Nat.le_of_ble_eq_true rfl⟩ (Nat.le_of_ble_eq_true rfl) ⟨Nat.le_of_ble_eq_true rfl, Nat.le_of_ble_eq_true rfl⟩ ⟨rfl, rfl⟩ rfl d_Md_beginPiece_25 (fun σ5 => ?_)
  refine kw_aload_n C d_Md_beginPiece_28 rfl ?_
  refine kw_iload C d_Md_beginPiece_29 rfl ?_
  refine kw_callVv (cl' := 0) (sl' := 0) (As := [.int a3]) C (c_Md_put hl n ids ht a3 σ5) mi_Md_397 v_Md_put ⟨_, _, rfl⟩ ht ⟨Nat.le_of_ble_eq_true rfl, Nat.le_of_ble_eq_true rfl⟩ (Nat.le_of_ble_eq_true rfl) ⟨Nat.le_of_ble_eq_true rfl, Nat.le_of_ble_eq_true rfl⟩ ⟨rfl, rfl⟩ rfl d_Md_beginPiece_31 (fun σ6 => ?_)
  exact kw_vret C Ce rfl (by simp) (fun _ _ => rfl) (Nat.le_of_ble_eq_true rfl) (Nat.le_of_ble_eq_true rfl) rfl d_Md_beginPiece_34
/-! Md_endPiece -/
def rm_Md_endPiece : Room := { frames := 2, cells := 0, slots := 0, locals := 47 }
def F_Md_endPiece (n : Nat) (t : Nat) (σ : Mm) : Option (Mm) :=
kf_let (((gS σ (64 * t + 2)) - (gS σ (64 * t + 54))) - 8 : Int32) fun x1 =>
Option.bind (F_Md_putNumber n t (gS σ (64 * t + 54)) x1.toInt64 σ) fun σ2 =>
kf_c2 (F_Md_check n t ((gS σ2 (64 * t + 54)) + 4) (x1 + 4) σ2) fun x3 σ4 =>
Option.bind (F_Md_putLong n t x3 σ4) fun σ5 =>
some σ5
theorem d_Md_endPiece_0 : decode prog_14_method_84_code 0 = .ok (.aload_n 0, 1) := by decide +kernel
theorem d_Md_endPiece_1 : decode prog_14_method_84_code 1 = .ok (.getfield 71, 3) := by decide +kernel
theorem d_Md_endPiece_4 : decode prog_14_method_84_code 4 = .ok (.aload_n 0, 1) := by decide +kernel
theorem d_Md_endPiece_5 : decode prog_14_method_84_code 5 = .ok (.getfield 401, 3) := by decide +kernel
theorem d_Md_endPiece_8 : decode prog_14_method_84_code 8 = .ok (.isub, 1) := by decide +kernel
theorem d_Md_endPiece_9 : decode prog_14_method_84_code 9 = .ok (.bipush 8, 2) := by decide +kernel
theorem d_Md_endPiece_11 : decode prog_14_method_84_code 11 = .ok (.isub, 1) := by decide +kernel
theorem d_Md_endPiece_12 : decode prog_14_method_84_code 12 = .ok (.istore_n 1, 1) := by decide +kernel
theorem d_Md_endPiece_13 : decode prog_14_method_84_code 13 = .ok (.aload_n 0, 1) := by decide +kernel
theorem d_Md_endPiece_14 : decode prog_14_method_84_code 14 = .ok (.aload_n 0, 1) := by decide +kernel
theorem d_Md_endPiece_15 : decode prog_14_method_84_code 15 = .ok (.getfield 401, 3) := by decide +kernel
theorem d_Md_endPiece_18 : decode prog_14_method_84_code 18 = .ok (.iload_n 1, 1) := by decide +kernel
theorem d_Md_endPiece_19 : decode prog_14_method_84_code 19 = .ok (.i2l, 1) := by decide +kernel
theorem d_Md_endPiece_20 : decode prog_14_method_84_code 20 = .ok (.invokevirtual 80, 3) := by decide +kernel
theorem d_Md_endPiece_23 : decode prog_14_method_84_code 23 = .ok (.aload_n 0, 1) := by decide +kernel
theorem d_Md_endPiece_24 : decode prog_14_method_84_code 24 = .ok (.aload_n 0, 1) := by decide +kernel
theorem d_Md_endPiece_25 : decode prog_14_method_84_code 25 = .ok (.aload_n 0, 1) := by decide +kernel
theorem d_Md_endPiece_26 : decode prog_14_method_84_code 26 = .ok (.getfield 401, 3) := by decide +kernel
theorem d_Md_endPiece_29 : decode prog_14_method_84_code 29 = .ok (.iconst 4, 1) := by decide +kernel
theorem d_Md_endPiece_30 : decode prog_14_method_84_code 30 = .ok (.iadd, 1) := by decide +kernel
theorem d_Md_endPiece_31 : decode prog_14_method_84_code 31 = .ok (.iload_n 1, 1) := by decide +kernel
theorem d_Md_endPiece_32 : decode prog_14_method_84_code 32 = .ok (.iconst 4, 1) := by decide +kernel
theorem d_Md_endPiece_33 : decode prog_14_method_84_code 33 = .ok (.iadd, 1) := by decide +kernel
theorem d_Md_endPiece_34 : decode prog_14_method_84_code 34 = .ok (.invokevirtual 76, 3) := by decide +kernel
theorem d_Md_endPiece_37 : decode prog_14_method_84_code 37 = .ok (.invokevirtual 404, 3) := by decide +kernel
theorem d_Md_endPiece_40 : decode prog_14_method_84_code 40 = .ok (.return_, 1) := by decide +kernel
set_option maxRecDepth 100000 in
set_option maxHeartbeats 4000000 in
theorem c_Md_endPiece {l0 : Launch} (hl : l0.stackTraces = false) (n : Nat) (ids : List Nat) {t : Nat} (ht : mm_ok ids t 1 12)  (σ : Mm) : kw_C l0 y_Md_endPiece (Cond.code y_Md_endPiece prog_14_method_84_code 2 none :: kw_Ts) rm_Md_endPiece kw_ov ids [] [.ref t] σ (F_Md_endPiece n t σ) := by
  refine kw_start (L0 := [some (.ref t), none]) hl (by decide +kernel) (Nat.le_of_ble_eq_true rfl) rfl (fun Γ ad C Ce => ?_)
  unfold F_Md_endPiece
  refine kw_aload_n C d_Md_endPiece_0 rfl ?_
  refine kw_getI C fi_Md_71 (Or.inl rfl) ht d_Md_endPiece_1 ?_
  refine kw_aload_n C d_Md_endPiece_4 rfl ?_
  refine kw_getI C fi_Md_401 (Or.inl rfl) ht d_Md_endPiece_5 ?_
  refine kw_isub C d_Md_endPiece_8 ?_
  refine kw_bipush (v := 8) C d_Md_endPiece_9 (by decide) ?_
  refine kw_isub C d_Md_endPiece_11 ?_
  refine kw_leti (fun x1 => ?_)
  refine kw_istore_n (L' := [some (.ref t), some (.int x1)]) C d_Md_endPiece_12 (by decide) rfl ?_
  refine kw_aload_n C d_Md_endPiece_13 rfl ?_
  refine kw_aload_n C d_Md_endPiece_14 rfl ?_
  refine kw_getI C fi_Md_401 (Or.inl rfl) ht d_Md_endPiece_15 ?_
  refine kw_iload_n C d_Md_endPiece_18 rfl ?_
  refine kw_i2l C d_Md_endPiece_19 ?_
  refine kw_callVv (cl' := 0) (sl' := 0) (As := [.int (gS σ (64 * t + 54)), .long x1.toInt64]) C (c_Md_putNumber hl n ids ht (gS σ (64 * t + 54)) x1.toInt64 σ) mi_Md_80 v_Md_putNumber ⟨_, _, rfl⟩ ht ⟨Nat.le_of_ble_eq_true rfl, Nat.le_of_ble_eq_true rfl⟩ (Nat.le_of_ble_eq_true rfl) ⟨Nat.le_of_ble_eq_true rfl, Nat.le_of_ble_eq_true rfl⟩ ⟨rfl, rfl⟩ rfl d_Md_endPiece_20 (fun σ2 => ?_)
  refine kw_aload_n C d_Md_endPiece_23 rfl ?_
  refine kw_aload_n C d_Md_endPiece_24 rfl ?_
  refine kw_aload_n C d_Md_endPiece_25 rfl ?_
  refine kw_getI C fi_Md_401 (Or.inl rfl) ht d_Md_endPiece_26 ?_
  refine kw_iconst (v := 4) C d_Md_endPiece_29 (by decide) ?_
  refine kw_iadd C d_Md_endPiece_30 ?_
  refine kw_iload_n C d_Md_endPiece_31 rfl ?_
  refine kw_iconst (v := 4) C d_Md_endPiece_32 (by decide) ?_
  refine kw_iadd C d_Md_endPiece_33 ?_
  refine kw_callVl (cl' := 0) (sl' := 0) (As := [.int ((gS σ2 (64 * t + 54)) + 4), .int (x1 + 4)]) C (c_Md_check hl n ids ht ((gS σ2 (64 * t + 54)) + 4) (x1 + 4) σ2) mi_Md_76 v_Md_check ⟨_, _, rfl⟩ ht ⟨Nat.le_of_ble_eq_true rfl, Nat.le_of_ble_eq_true rfl⟩ (Nat.le_of_ble_eq_true rfl) ⟨Nat.le_of_ble_eq_true rfl, Nat.le_of_ble_eq_true rfl⟩ ⟨rfl, rfl⟩ rfl d_Md_endPiece_34 (fun x3 σ4 => ?_)
  refine kw_callVv (cl' := 0) (sl' := 0) (As := [.long x3]) C (c_Md_putLong hl n ids ht x3 σ4) mi_Md_404 v_Md_putLong ⟨_, _, rfl⟩ ht ⟨Nat.le_of_ble_eq_true rfl, Nat.le_of_ble_eq_true rfl⟩ (Nat.le_of_ble_eq_true rfl) ⟨Nat.le_of_ble_eq_true rfl, Nat.le_of_ble_eq_true rfl⟩ ⟨rfl, rfl⟩ rfl d_Md_endPiece_37 (fun σ5 => ?_)
  exact kw_vret C Ce rfl (by simp) (fun _ _ => rfl) (Nat.le_of_ble_eq_true rfl) (Nat.le_of_ble_eq_true rfl) rfl d_Md_endPiece_40
/-! Md_writeColours -/
def rm_Md_writeColours : Room := { frames := 3, cells := 0, slots := 0, locals := 68 }
def F_Md_writeColours (n : Nat) (t : Nat) (σ : Mm) : Option (Mm) :=
kf_j (α := Unit) (fun x2 σ3 =>
kf_j (α := Unit) (fun x5 σ6 =>
some σ6) fun k4 =>
if (gS σ3 (64 * t + 15)) ≤ 0 then (
k4 () σ3) else (
Option.bind (F_Md_beginPiece n t 116 82 78 83 σ3) fun σ7 =>
kf_l (α := Int32) n (fun k8 x9 σ10 =>
if (gS σ10 (64 * t + 15)) ≤ x9 then (
Option.bind (F_Md_endPiece n t σ10) fun σ11 =>
k4 () σ11) else (
kf_j (α := Unit) (fun x13 σ14 =>
Option.bind (gR σ14 (64 * t + 14)) fun o15 =>
kf_in x9 (mm_kd o15).2.2 <|
Option.bind (F_Md_put n t (gB σ14 o15 x9.toNatClampNeg) σ14) fun σ16 =>
kf_let (x9 + Int32.ofInt 1) fun x17 =>
k8 x17 σ16) fun k12 =>
if (gS σ10 (64 * t + 8)) = 3 then (
k12 () σ10) else (
Option.bind (gR σ10 (64 * t + 14)) fun o18 =>
kf_in x9 (mm_kd o18).2.2 <|
Option.bind (F_Md_put n t ((gB σ10 o18 x9.toNatClampNeg) >>> (8 &&& 31)) σ10) fun σ19 =>
k12 () σ19))) 0 σ7)) fun k1 =>
if (gS σ (64 * t + 13)) ≤ 0 then (
k1 () σ) else (
Option.bind (F_Md_beginPiece n t 80 76 84 69 σ) fun σ20 =>
kf_l (α := Int32) n (fun k21 x22 σ23 =>
if ((3 : Int32) * (gS σ23 (64 * t + 13))) ≤ x22 then (
Option.bind (F_Md_endPiece n t σ23) fun σ24 =>
k1 () σ24) else (
Option.bind (gR σ23 (64 * t + 12)) fun o25 =>
kf_in x22 (mm_kd o25).2.2 <|
Option.bind (F_Md_put n t (gB σ23 o25 x22.toNatClampNeg) σ23) fun σ26 =>
kf_let (x22 + Int32.ofInt 1) fun x27 =>
k21 x27 σ26)) 0 σ20)
theorem d_Md_writeColours_0 : decode prog_14_method_86_code 0 = .ok (.aload_n 0, 1) := by decide +kernel
theorem d_Md_writeColours_1 : decode prog_14_method_86_code 1 = .ok (.getfield 372, 3) := by decide +kernel
theorem d_Md_writeColours_4 : decode prog_14_method_86_code 4 = .ok (.ifCond .le 47, 3) := by decide +kernel
theorem d_Md_writeColours_7 : decode prog_14_method_86_code 7 = .ok (.aload_n 0, 1) := by decide +kernel
theorem d_Md_writeColours_8 : decode prog_14_method_86_code 8 = .ok (.bipush 80, 2) := by decide +kernel
theorem d_Md_writeColours_10 : decode prog_14_method_86_code 10 = .ok (.bipush 76, 2) := by decide +kernel
theorem d_Md_writeColours_12 : decode prog_14_method_86_code 12 = .ok (.bipush 84, 2) := by decide +kernel
theorem d_Md_writeColours_14 : decode prog_14_method_86_code 14 = .ok (.bipush 69, 2) := by decide +kernel
theorem d_Md_writeColours_16 : decode prog_14_method_86_code 16 = .ok (.invokevirtual 412, 3) := by decide +kernel
theorem d_Md_writeColours_19 : decode prog_14_method_86_code 19 = .ok (.iconst 0, 1) := by decide +kernel
theorem d_Md_writeColours_20 : decode prog_14_method_86_code 20 = .ok (.istore_n 1, 1) := by decide +kernel
theorem d_Md_writeColours_21 : decode prog_14_method_86_code 21 = .ok (.iload_n 1, 1) := by decide +kernel
theorem d_Md_writeColours_22 : decode prog_14_method_86_code 22 = .ok (.iconst 3, 1) := by decide +kernel
theorem d_Md_writeColours_23 : decode prog_14_method_86_code 23 = .ok (.aload_n 0, 1) := by decide +kernel
theorem d_Md_writeColours_24 : decode prog_14_method_86_code 24 = .ok (.getfield 372, 3) := by decide +kernel
theorem d_Md_writeColours_27 : decode prog_14_method_86_code 27 = .ok (.imul, 1) := by decide +kernel
theorem d_Md_writeColours_28 : decode prog_14_method_86_code 28 = .ok (.if_icmp .ge 19, 3) := by decide +kernel
theorem d_Md_writeColours_31 : decode prog_14_method_86_code 31 = .ok (.aload_n 0, 1) := by decide +kernel
theorem d_Md_writeColours_32 : decode prog_14_method_86_code 32 = .ok (.aload_n 0, 1) := by decide +kernel
theorem d_Md_writeColours_33 : decode prog_14_method_86_code 33 = .ok (.getfield 18, 3) := by decide +kernel
theorem d_Md_writeColours_36 : decode prog_14_method_86_code 36 = .ok (.iload_n 1, 1) := by decide +kernel
theorem d_Md_writeColours_37 : decode prog_14_method_86_code 37 = .ok (.iaload, 1) := by decide +kernel
theorem d_Md_writeColours_38 : decode prog_14_method_86_code 38 = .ok (.invokevirtual 397, 3) := by decide +kernel
theorem d_Md_writeColours_41 : decode prog_14_method_86_code 41 = .ok (.iinc 1 1, 3) := by decide +kernel
theorem d_Md_writeColours_44 : decode prog_14_method_86_code 44 = .ok (.goto (-23), 3) := by decide +kernel
theorem d_Md_writeColours_47 : decode prog_14_method_86_code 47 = .ok (.aload_n 0, 1) := by decide +kernel
theorem d_Md_writeColours_48 : decode prog_14_method_86_code 48 = .ok (.invokevirtual 416, 3) := by decide +kernel
theorem d_Md_writeColours_51 : decode prog_14_method_86_code 51 = .ok (.aload_n 0, 1) := by decide +kernel
theorem d_Md_writeColours_52 : decode prog_14_method_86_code 52 = .ok (.getfield 375, 3) := by decide +kernel
theorem d_Md_writeColours_55 : decode prog_14_method_86_code 55 = .ok (.ifCond .le 66, 3) := by decide +kernel
theorem d_Md_writeColours_58 : decode prog_14_method_86_code 58 = .ok (.aload_n 0, 1) := by decide +kernel
theorem d_Md_writeColours_59 : decode prog_14_method_86_code 59 = .ok (.bipush 116, 2) := by decide +kernel
theorem d_Md_writeColours_61 : decode prog_14_method_86_code 61 = .ok (.bipush 82, 2) := by decide +kernel
theorem d_Md_writeColours_63 : decode prog_14_method_86_code 63 = .ok (.bipush 78, 2) := by decide +kernel
theorem d_Md_writeColours_65 : decode prog_14_method_86_code 65 = .ok (.bipush 83, 2) := by decide +kernel
theorem d_Md_writeColours_67 : decode prog_14_method_86_code 67 = .ok (.invokevirtual 412, 3) := by decide +kernel
theorem d_Md_writeColours_70 : decode prog_14_method_86_code 70 = .ok (.iconst 0, 1) := by decide +kernel
theorem d_Md_writeColours_71 : decode prog_14_method_86_code 71 = .ok (.istore_n 1, 1) := by decide +kernel
theorem d_Md_writeColours_72 : decode prog_14_method_86_code 72 = .ok (.iload_n 1, 1) := by decide +kernel
theorem d_Md_writeColours_73 : decode prog_14_method_86_code 73 = .ok (.aload_n 0, 1) := by decide +kernel
theorem d_Md_writeColours_74 : decode prog_14_method_86_code 74 = .ok (.getfield 375, 3) := by decide +kernel
theorem d_Md_writeColours_77 : decode prog_14_method_86_code 77 = .ok (.if_icmp .ge 40, 3) := by decide +kernel
theorem d_Md_writeColours_80 : decode prog_14_method_86_code 80 = .ok (.aload_n 0, 1) := by decide +kernel
theorem d_Md_writeColours_81 : decode prog_14_method_86_code 81 = .ok (.getfield 363, 3) := by decide +kernel
theorem d_Md_writeColours_84 : decode prog_14_method_86_code 84 = .ok (.iconst 3, 1) := by decide +kernel
theorem d_Md_writeColours_85 : decode prog_14_method_86_code 85 = .ok (.if_icmp .eq 16, 3) := by decide +kernel
theorem d_Md_writeColours_88 : decode prog_14_method_86_code 88 = .ok (.aload_n 0, 1) := by decide +kernel
theorem d_Md_writeColours_89 : decode prog_14_method_86_code 89 = .ok (.aload_n 0, 1) := by decide +kernel
theorem d_Md_writeColours_90 : decode prog_14_method_86_code 90 = .ok (.getfield 21, 3) := by decide +kernel
theorem d_Md_writeColours_93 : decode prog_14_method_86_code 93 = .ok (.iload_n 1, 1) := by decide +kernel
theorem d_Md_writeColours_94 : decode prog_14_method_86_code 94 = .ok (.iaload, 1) := by decide +kernel
theorem d_Md_writeColours_95 : decode prog_14_method_86_code 95 = .ok (.bipush 8, 2) := by decide +kernel
theorem d_Md_writeColours_97 : decode prog_14_method_86_code 97 = .ok (.ishr, 1) := by decide +kernel
theorem d_Md_writeColours_98 : decode prog_14_method_86_code 98 = .ok (.invokevirtual 397, 3) := by decide +kernel
theorem d_Md_writeColours_101 : decode prog_14_method_86_code 101 = .ok (.aload_n 0, 1) := by decide +kernel
theorem d_Md_writeColours_102 : decode prog_14_method_86_code 102 = .ok (.aload_n 0, 1) := by decide +kernel
theorem d_Md_writeColours_103 : decode prog_14_method_86_code 103 = .ok (.getfield 21, 3) := by decide +kernel
theorem d_Md_writeColours_106 : decode prog_14_method_86_code 106 = .ok (.iload_n 1, 1) := by decide +kernel
theorem d_Md_writeColours_107 : decode prog_14_method_86_code 107 = .ok (.iaload, 1) := by decide +kernel
theorem d_Md_writeColours_108 : decode prog_14_method_86_code 108 = .ok (.invokevirtual 397, 3) := by decide +kernel
theorem d_Md_writeColours_111 : decode prog_14_method_86_code 111 = .ok (.iinc 1 1, 3) := by decide +kernel
theorem d_Md_writeColours_114 : decode prog_14_method_86_code 114 = .ok (.goto (-42), 3) := by decide +kernel
theorem d_Md_writeColours_117 : decode prog_14_method_86_code 117 = .ok (.aload_n 0, 1) := by decide +kernel
theorem d_Md_writeColours_118 : decode prog_14_method_86_code 118 = .ok (.invokevirtual 416, 3) := by decide +kernel
theorem d_Md_writeColours_121 : decode prog_14_method_86_code 121 = .ok (.return_, 1) := by decide +kernel
set_option maxRecDepth 100000 in
set_option maxHeartbeats 4000000 in
theorem c_Md_writeColours {l0 : Launch} (hl : l0.stackTraces = false) (n : Nat) (ids : List Nat) {t : Nat} (ht : mm_ok ids t 1 12)  (σ : Mm) : kw_C l0 y_Md_writeColours (Cond.code y_Md_writeColours prog_14_method_86_code 2 none :: kw_Ts) rm_Md_writeColours kw_ov ids [] [.ref t] σ (F_Md_writeColours n t σ) := by
  refine kw_start (L0 := [some (.ref t), none]) hl (by decide +kernel) (Nat.le_of_ble_eq_true rfl) rfl (fun Γ ad C Ce => ?_)
  unfold F_Md_writeColours
  refine kw_aload_n C d_Md_writeColours_0 rfl ?_
  refine kw_getI C fi_Md_372 (Or.inl rfl) ht d_Md_writeColours_1 ?_
  refine kw_j (α := Unit) (pcj := 51) (Lj := fun x2 => [some (.ref t), none]) (stj := fun x2 => []) (fun x2 σ3 => ?_) (fun k1 hk1 => ?_)
  · refine kw_aload_n C d_Md_writeColours_51 rfl ?_
    refine kw_getI C fi_Md_375 (Or.inl rfl) ht d_Md_writeColours_52 ?_
    refine kw_j (α := Unit) (pcj := 121) (Lj := fun x5 => [none, none]) (stj := fun x5 => []) (fun x5 σ6 => ?_) (fun k4 hk4 => ?_)
    · exact kw_vret C Ce rfl (by simp) (fun _ _ => rfl) (Nat.le_of_ble_eq_true rfl) (Nat.le_of_ble_eq_true rfl) rfl d_Md_writeColours_121
    · refine kw_if_le (tgt := 121) C d_Md_writeColours_55 (by decide) ?_ ?_
      · exact kw_wk (hk4 () σ3) ⟨Or.inl rfl, Or.inl rfl, trivial⟩
      · refine kw_aload_n C d_Md_writeColours_58 rfl ?_
        refine kw_bipush (v := 116) C d_Md_writeColours_59 (by decide) ?_
        refine kw_bipush (v := 82) C d_Md_writeColours_61 (by decide) ?_
        refine kw_bipush (v := 78) C d_Md_writeColours_63 (by decide) ?_
        refine kw_bipush (v := 83) C d_Md_writeColours_65 (by decide) ?_
        refine kw_callVv (cl' := 0) (sl' := 0) (As := [.int 116, .int 82, .int 78, .int 83]) C (c_Md_beginPiece hl n ids ht 116 82 78 83 σ3) mi_Md_412 v_Md_beginPiece ⟨_, _, rfl⟩ ht ⟨Nat.le_of_ble_eq_true rfl, Nat.le_of_ble_eq_true rfl⟩ (Nat.le_of_ble_eq_true rfl) ⟨Nat.le_of_ble_eq_true rfl, Nat.le_of_ble_eq_true rfl⟩ ⟨rfl, rfl⟩ rfl d_Md_writeColours_67 (fun σ7 => ?_)
        refine kw_iconst (v := 0) C d_Md_writeColours_70 (by decide) ?_
        refine kw_istore_n (L' := [some (.ref t), some (.int 0)]) C d_Md_writeColours_71 (by decide) rfl ?_
        refine kw_wk (kw_l (α := Int32) (pc := 72) (Lj := fun x9 => [some (.ref t), some (.int x9)]) (stj := fun x9 => []) (fun k8 hk8 x9 σ10 => ?_) n 0 σ7) ⟨Or.inr rfl, Or.inr rfl, trivial⟩
        refine kw_iload_n C d_Md_writeColours_72 rfl ?_
        refine kw_aload_n C d_Md_writeColours_73 rfl ?_
        refine kw_getI C fi_Md_375 (Or.inl rfl) ht d_Md_writeColours_74 ?_
        refine kw_icmp_ge (tgt := 117) C d_Md_writeColours_77 (by decide) ?_ ?_
        · refine kw_aload_n C d_Md_writeColours_117 rfl ?_
          refine kw_callVv (cl' := 0) (sl' := 0) (As := []) C (c_Md_endPiece hl n ids ht  σ10) mi_Md_416 v_Md_endPiece ⟨_, _, rfl⟩ ht ⟨Nat.le_of_ble_eq_true rfl, Nat.le_of_ble_eq_true rfl⟩ (Nat.le_of_ble_eq_true rfl) ⟨Nat.le_of_ble_eq_true rfl, Nat.le_of_ble_eq_true rfl⟩ ⟨rfl, rfl⟩ rfl d_Md_writeColours_118 (fun σ11 => ?_)
          exact kw_wk (hk4 () σ11) ⟨Or.inl rfl, Or.inl rfl, trivial⟩
        · refine kw_aload_n C d_Md_writeColours_80 rfl ?_
          refine kw_getI C fi_Md_363 (Or.inl rfl) ht d_Md_writeColours_81 ?_
          refine kw_iconst (v := 3) C d_Md_writeColours_84 (by decide) ?_
          refine kw_j (α := Unit) (pcj := 101) (Lj := fun x13 => [some (.ref t), some (.int x9)]) (stj := fun x13 => []) (fun x13 σ14 => ?_) (fun k12 hk12 => ?_)
          · refine kw_aload_n C d_Md_writeColours_101 rfl ?_
            refine kw_aload_n C d_Md_writeColours_102 rfl ?_
            refine kw_getR C fi_Md_21 rfl rfl ht d_Md_writeColours_103 (fun o15 ho15 => ?_)
            refine kw_iload_n C d_Md_writeColours_106 rfl ?_
            refine kw_iald C (Or.inl ⟨ho15.1, ho15.2.1⟩) d_Md_writeColours_107 ?_
            refine kw_callVv (cl' := 0) (sl' := 0) (As := [.int (gB σ14 o15 x9.toNatClampNeg)]) C (c_Md_put hl n ids ht (gB σ14 o15 x9.toNatClampNeg) σ14) mi_Md_397 v_Md_put ⟨_, _, rfl⟩ ht ⟨Nat.le_of_ble_eq_true rfl, Nat.le_of_ble_eq_true rfl⟩ (Nat.le_of_ble_eq_true rfl) ⟨Nat.le_of_ble_eq_true rfl, Nat.le_of_ble_eq_true rfl⟩ ⟨rfl, rfl⟩ rfl d_Md_writeColours_108 (fun σ16 => ?_)
            refine kw_iincL (L2 := fun x17 => [some (.ref t), some (.int x17)]) C d_Md_writeColours_111 (by decide) rfl (fun _ => rfl) (fun x17 => ?_)
            refine kw_goto (tgt := 72) C d_Md_writeColours_114 (by decide) ?_
            exact kw_wk (hk8 x17 σ16) ⟨Or.inr rfl, Or.inr rfl, trivial⟩
          · refine kw_icmp_eq (tgt := 101) C d_Md_writeColours_85 (by decide) ?_ ?_
            · exact kw_wk (hk12 () σ10) ⟨Or.inr rfl, Or.inr rfl, trivial⟩
            · refine kw_aload_n C d_Md_writeColours_88 rfl ?_
              refine kw_aload_n C d_Md_writeColours_89 rfl ?_
              refine kw_getR C fi_Md_21 rfl rfl ht d_Md_writeColours_90 (fun o18 ho18 => ?_)
              refine kw_iload_n C d_Md_writeColours_93 rfl ?_
              refine kw_iald C (Or.inl ⟨ho18.1, ho18.2.1⟩) d_Md_writeColours_94 ?_
              refine kw_bipush (v := 8) C d_Md_writeColours_95 (by decide) ?_
              refine kw_ishr C d_Md_writeColours_97 ?_
              refine kw_callVv (cl' := 0) (sl' := 0) (As := [.int ((gB σ10 o18 x9.toNatClampNeg) >>> (8 &&& 31))]) C (c_Md_put hl n ids ht ((gB σ10 o18 x9.toNatClampNeg) >>> (8 &&& 31)) σ10) mi_Md_397 v_Md_put ⟨_, _, rfl⟩ ht ⟨Nat.le_of_ble_eq_true rfl, Nat.le_of_ble_eq_true rfl⟩ (Nat.le_of_ble_eq_true rfl) ⟨Nat.le_of_ble_eq_true rfl, Nat.le_of_ble_eq_true rfl⟩ ⟨rfl, rfl⟩ rfl d_Md_writeColours_98 (fun σ19 => ?_)
              exact kw_wk (hk12 () σ19) ⟨Or.inr rfl, Or.inr rfl, trivial⟩
  · refine kw_if_le (tgt := 51) C d_Md_writeColours_4 (by decide) ?_ ?_
    · exact kw_wk (hk1 () σ) ⟨Or.inr rfl, Or.inl rfl, trivial⟩
    · refine kw_aload_n C d_Md_writeColours_7 rfl ?_
      refine kw_bipush (v := 80) C d_Md_writeColours_8 (by decide) ?_
      refine kw_bipush (v := 76) C d_Md_writeColours_10 (by decide) ?_
      refine kw_bipush (v := 84) C d_Md_writeColours_12 (by decide) ?_
      refine kw_bipush (v := 69) C d_Md_writeColours_14 (by decide) ?_
      refine kw_callVv (cl' := 0) (sl' := 0) (As := [.int 80, .int 76, .int 84, .int 69]) C (c_Md_beginPiece hl n ids ht 80 76 84 69 σ) mi_Md_412 v_Md_beginPiece ⟨_, _, rfl⟩ ht ⟨Nat.le_of_ble_eq_true rfl, Nat.le_of_ble_eq_true rfl⟩ (Nat.le_of_ble_eq_true rfl) ⟨Nat.le_of_ble_eq_true rfl, Nat.le_of_ble_eq_true rfl⟩ ⟨rfl, rfl⟩ rfl d_Md_writeColours_16 (fun σ20 => ?_)
      refine kw_iconst (v := 0) C d_Md_writeColours_19 (by decide) ?_
      refine kw_istore_n (L' := [some (.ref t), some (.int 0)]) C d_Md_writeColours_20 (by decide) rfl ?_
      refine kw_wk (kw_l (α := Int32) (pc := 21) (Lj := fun x22 => [some (.ref t), some (.int x22)]) (stj := fun x22 => []) (fun k21 hk21 x22 σ23 => ?_) n 0 σ20) ⟨Or.inr rfl, Or.inr rfl, trivial⟩
      refine kw_iload_n C d_Md_writeColours_21 rfl ?_
      refine kw_iconst (v := 3) C d_Md_writeColours_22 (by decide) ?_
      refine kw_aload_n C d_Md_writeColours_23 rfl ?_
      refine kw_getI C fi_Md_372 (Or.inl rfl) ht d_Md_writeColours_24 ?_
      refine kw_imul C d_Md_writeColours_27 ?_
      refine kw_icmp_ge (tgt := 47) C d_Md_writeColours_28 (by decide) ?_ ?_
      · refine kw_aload_n C d_Md_writeColours_47 rfl ?_
        refine kw_callVv (cl' := 0) (sl' := 0) (As := []) C (c_Md_endPiece hl n ids ht  σ23) mi_Md_416 v_Md_endPiece ⟨_, _, rfl⟩ ht ⟨Nat.le_of_ble_eq_true rfl, Nat.le_of_ble_eq_true rfl⟩ (Nat.le_of_ble_eq_true rfl) ⟨Nat.le_of_ble_eq_true rfl, Nat.le_of_ble_eq_true rfl⟩ ⟨rfl, rfl⟩ rfl d_Md_writeColours_48 (fun σ24 => ?_)
        exact kw_wk (hk1 () σ24) ⟨Or.inr rfl, Or.inl rfl, trivial⟩
      · refine kw_aload_n C d_Md_writeColours_31 rfl ?_
        refine kw_aload_n C d_Md_writeColours_32 rfl ?_
        refine kw_getR C fi_Md_18 rfl rfl ht d_Md_writeColours_33 (fun o25 ho25 => ?_)
        refine kw_iload_n C d_Md_writeColours_36 rfl ?_
        refine kw_iald C (Or.inl ⟨ho25.1, ho25.2.1⟩) d_Md_writeColours_37 ?_
        refine kw_callVv (cl' := 0) (sl' := 0) (As := [.int (gB σ23 o25 x22.toNatClampNeg)]) C (c_Md_put hl n ids ht (gB σ23 o25 x22.toNatClampNeg) σ23) mi_Md_397 v_Md_put ⟨_, _, rfl⟩ ht ⟨Nat.le_of_ble_eq_true rfl, Nat.le_of_ble_eq_true rfl⟩ (Nat.le_of_ble_eq_true rfl) ⟨Nat.le_of_ble_eq_true rfl, Nat.le_of_ble_eq_true rfl⟩ ⟨rfl, rfl⟩ rfl d_Md_writeColours_38 (fun σ26 => ?_)
        refine kw_iincL (L2 := fun x27 => [some (.ref t), some (.int x27)]) C d_Md_writeColours_41 (by decide) rfl (fun _ => rfl) (fun x27 => ?_)
        refine kw_goto (tgt := 21) C d_Md_writeColours_44 (by decide) ?_
        exact kw_wk (hk21 x27 σ26) ⟨Or.inr rfl, Or.inr rfl, trivial⟩
/-! Md_putBit -/
def rm_Md_putBit : Room := { frames := 1, cells := 0, slots := 0, locals := 21 }
def F_Md_putBit (n : Nat) (t : Nat) (a0 : Int32) (σ : Mm) : Option (Mm) :=
kf_let (pS σ (64 * t + 55) ((gS σ (64 * t + 55)) ||| (a0 <<< ((gS σ (64 * t + 56)) &&& 31)))) fun σ1 =>
kf_let (pS σ1 (64 * t + 56) ((gS σ1 (64 * t + 56)) + 1)) fun σ2 =>
kf_j (α := Unit) (fun x4 σ5 =>
some σ5) fun k3 =>
if (gS σ2 (64 * t + 56)) = 8 then (
Option.bind (F_Md_put n t (gS σ2 (64 * t + 55)) σ2) fun σ6 =>
kf_let (pS σ6 (64 * t + 55) 0) fun σ7 =>
kf_let (pS σ7 (64 * t + 56) 0) fun σ8 =>
k3 () σ8) else (
k3 () σ2)
theorem d_Md_putBit_0 : decode prog_14_method_88_code 0 = .ok (.aload_n 0, 1) := by decide +kernel
theorem d_Md_putBit_1 : decode prog_14_method_88_code 1 = .ok (.dup, 1) := by decide +kernel
theorem d_Md_putBit_2 : decode prog_14_method_88_code 2 = .ok (.getfield 431, 3) := by decide +kernel
theorem d_Md_putBit_5 : decode prog_14_method_88_code 5 = .ok (.iload_n 1, 1) := by decide +kernel
theorem d_Md_putBit_6 : decode prog_14_method_88_code 6 = .ok (.aload_n 0, 1) := by decide +kernel
theorem d_Md_putBit_7 : decode prog_14_method_88_code 7 = .ok (.getfield 434, 3) := by decide +kernel
theorem d_Md_putBit_10 : decode prog_14_method_88_code 10 = .ok (.ishl, 1) := by decide +kernel
theorem d_Md_putBit_11 : decode prog_14_method_88_code 11 = .ok (.ior, 1) := by decide +kernel
theorem d_Md_putBit_12 : decode prog_14_method_88_code 12 = .ok (.putfield 431, 3) := by decide +kernel
theorem d_Md_putBit_15 : decode prog_14_method_88_code 15 = .ok (.aload_n 0, 1) := by decide +kernel
theorem d_Md_putBit_16 : decode prog_14_method_88_code 16 = .ok (.dup, 1) := by decide +kernel
theorem d_Md_putBit_17 : decode prog_14_method_88_code 17 = .ok (.getfield 434, 3) := by decide +kernel
theorem d_Md_putBit_20 : decode prog_14_method_88_code 20 = .ok (.iconst 1, 1) := by decide +kernel
theorem d_Md_putBit_21 : decode prog_14_method_88_code 21 = .ok (.iadd, 1) := by decide +kernel
theorem d_Md_putBit_22 : decode prog_14_method_88_code 22 = .ok (.putfield 434, 3) := by decide +kernel
theorem d_Md_putBit_25 : decode prog_14_method_88_code 25 = .ok (.aload_n 0, 1) := by decide +kernel
theorem d_Md_putBit_26 : decode prog_14_method_88_code 26 = .ok (.getfield 434, 3) := by decide +kernel
theorem d_Md_putBit_29 : decode prog_14_method_88_code 29 = .ok (.bipush 8, 2) := by decide +kernel
theorem d_Md_putBit_31 : decode prog_14_method_88_code 31 = .ok (.if_icmp .ne 21, 3) := by decide +kernel
theorem d_Md_putBit_34 : decode prog_14_method_88_code 34 = .ok (.aload_n 0, 1) := by decide +kernel
theorem d_Md_putBit_35 : decode prog_14_method_88_code 35 = .ok (.aload_n 0, 1) := by decide +kernel
theorem d_Md_putBit_36 : decode prog_14_method_88_code 36 = .ok (.getfield 431, 3) := by decide +kernel
theorem d_Md_putBit_39 : decode prog_14_method_88_code 39 = .ok (.invokevirtual 397, 3) := by decide +kernel
theorem d_Md_putBit_42 : decode prog_14_method_88_code 42 = .ok (.aload_n 0, 1) := by decide +kernel
theorem d_Md_putBit_43 : decode prog_14_method_88_code 43 = .ok (.iconst 0, 1) := by decide +kernel
theorem d_Md_putBit_44 : decode prog_14_method_88_code 44 = .ok (.putfield 431, 3) := by decide +kernel
theorem d_Md_putBit_47 : decode prog_14_method_88_code 47 = .ok (.aload_n 0, 1) := by decide +kernel
theorem d_Md_putBit_48 : decode prog_14_method_88_code 48 = .ok (.iconst 0, 1) := by decide +kernel
theorem d_Md_putBit_49 : decode prog_14_method_88_code 49 = .ok (.putfield 434, 3) := by decide +kernel
theorem d_Md_putBit_52 : decode prog_14_method_88_code 52 = .ok (.return_, 1) := by decide +kernel
set_option maxRecDepth 100000 in
set_option maxHeartbeats 4000000 in
theorem c_Md_putBit {l0 : Launch} (hl : l0.stackTraces = false) (n : Nat) (ids : List Nat) {t : Nat} (ht : mm_ok ids t 1 12) (a0 : Int32) (σ : Mm) : kw_C l0 y_Md_putBit (Cond.code y_Md_putBit prog_14_method_88_code 2 none :: kw_Ts) rm_Md_putBit kw_ov ids [] [.ref t, .int a0] σ (F_Md_putBit n t a0 σ) := by
  refine kw_start (L0 := [some (.ref t), some (.int a0)]) hl (by decide +kernel) (Nat.le_of_ble_eq_true rfl) rfl (fun Γ ad C Ce => ?_)
  unfold F_Md_putBit
  refine kw_aload_n C d_Md_putBit_0 rfl ?_
  refine kw_dup C d_Md_putBit_1 rfl ?_
  refine kw_getI C fi_Md_431 (Or.inl rfl) ht d_Md_putBit_2 ?_
  refine kw_iload_n C d_Md_putBit_5 rfl ?_
  refine kw_aload_n C d_Md_putBit_6 rfl ?_
  refine kw_getI C fi_Md_434 (Or.inl rfl) ht d_Md_putBit_7 ?_
  refine kw_ishl C d_Md_putBit_10 ?_
  refine kw_ior C d_Md_putBit_11 ?_
  refine kw_putI C fi_Md_431 rfl ht d_Md_putBit_12 (fun σ1 => ?_)
  refine kw_aload_n C d_Md_putBit_15 rfl ?_
  refine kw_dup C d_Md_putBit_16 rfl ?_
  refine kw_getI C fi_Md_434 (Or.inl rfl) ht d_Md_putBit_17 ?_
  refine kw_iconst (v := 1) C d_Md_putBit_20 (by decide) ?_
  refine kw_iadd C d_Md_putBit_21 ?_
  refine kw_putI C fi_Md_434 rfl ht d_Md_putBit_22 (fun σ2 => ?_)
  refine kw_aload_n C d_Md_putBit_25 rfl ?_
  refine kw_getI C fi_Md_434 (Or.inl rfl) ht d_Md_putBit_26 ?_
  refine kw_bipush (v := 8) C d_Md_putBit_29 (by decide) ?_
  refine kw_j (α := Unit) (pcj := 52) (Lj := fun x4 => [none, none]) (stj := fun x4 => []) (fun x4 σ5 => ?_) (fun k3 hk3 => ?_)
  · exact kw_vret C Ce rfl (by simp) (fun _ _ => rfl) (Nat.le_of_ble_eq_true rfl) (Nat.le_of_ble_eq_true rfl) rfl d_Md_putBit_52
  · refine kw_icmp_ne (tgt := 52) C d_Md_putBit_31 (by decide) ?_ ?_
    · exact kw_wk (hk3 () σ2) ⟨Or.inl rfl, Or.inl rfl, trivial⟩
    · refine kw_aload_n C d_Md_putBit_34 rfl ?_
      refine kw_aload_n C d_Md_putBit_35 rfl ?_
      refine kw_getI C fi_Md_431 (Or.inl rfl) ht d_Md_putBit_36 ?_
      refine kw_callVv (cl' := 0) (sl' := 0) (As := [.int (gS σ2 (64 * t + 55))]) C (c_Md_put hl n ids ht (gS σ2 (64 * t + 55)) σ2) mi_Md_397 v_Md_put ⟨_, _, rfl⟩ ht ⟨Nat.le_of_ble_eq_true rfl, Nat.le_of_ble_eq_true rfl⟩ (Nat.le_of_ble_eq_true rfl) ⟨Nat.le_of_ble_eq_true rfl, Nat.le_of_ble_eq_true rfl⟩ ⟨rfl, rfl⟩ rfl d_Md_putBit_39 (fun σ6 => ?_)
      refine kw_aload_n C d_Md_putBit_42 rfl ?_
      refine kw_iconst (v := 0) C d_Md_putBit_43 (by decide) ?_
      refine kw_putI C fi_Md_431 rfl ht d_Md_putBit_44 (fun σ7 => ?_)
      refine kw_aload_n C d_Md_putBit_47 rfl ?_
      refine kw_iconst (v := 0) C d_Md_putBit_48 (by decide) ?_
      refine kw_putI C fi_Md_434 rfl ht d_Md_putBit_49 (fun σ8 => ?_)
      exact kw_wk (hk3 () σ8) ⟨Or.inl rfl, Or.inl rfl, trivial⟩
/-! Md_putBits -/
def rm_Md_putBits : Room := { frames := 2, cells := 0, slots := 0, locals := 42 }
def F_Md_putBits (n : Nat) (t : Nat) (a0 : Int32) (a1 : Int32) (σ : Mm) : Option (Mm) :=
kf_l (α := Int32) n (fun k1 x2 σ3 =>
if a1 ≤ x2 then (
some σ3) else (
Option.bind (F_Md_putBit n t ((a0 >>> (x2 &&& 31)) &&& 1) σ3) fun σ4 =>
kf_let (x2 + Int32.ofInt 1) fun x5 =>
k1 x5 σ4)) 0 σ
theorem d_Md_putBits_0 : decode prog_14_method_89_code 0 = .ok (.iconst 0, 1) := by decide +kernel
theorem d_Md_putBits_1 : decode prog_14_method_89_code 1 = .ok (.istore_n 3, 1) := by decide +kernel
theorem d_Md_putBits_2 : decode prog_14_method_89_code 2 = .ok (.iload_n 3, 1) := by decide +kernel
theorem d_Md_putBits_3 : decode prog_14_method_89_code 3 = .ok (.iload_n 2, 1) := by decide +kernel
theorem d_Md_putBits_4 : decode prog_14_method_89_code 4 = .ok (.if_icmp .ge 18, 3) := by decide +kernel
theorem d_Md_putBits_7 : decode prog_14_method_89_code 7 = .ok (.aload_n 0, 1) := by decide +kernel
theorem d_Md_putBits_8 : decode prog_14_method_89_code 8 = .ok (.iload_n 1, 1) := by decide +kernel
theorem d_Md_putBits_9 : decode prog_14_method_89_code 9 = .ok (.iload_n 3, 1) := by decide +kernel
theorem d_Md_putBits_10 : decode prog_14_method_89_code 10 = .ok (.ishr, 1) := by decide +kernel
theorem d_Md_putBits_11 : decode prog_14_method_89_code 11 = .ok (.iconst 1, 1) := by decide +kernel
theorem d_Md_putBits_12 : decode prog_14_method_89_code 12 = .ok (.iand, 1) := by decide +kernel
theorem d_Md_putBits_13 : decode prog_14_method_89_code 13 = .ok (.invokevirtual 437, 3) := by decide +kernel
theorem d_Md_putBits_16 : decode prog_14_method_89_code 16 = .ok (.iinc 3 1, 3) := by decide +kernel
theorem d_Md_putBits_19 : decode prog_14_method_89_code 19 = .ok (.goto (-17), 3) := by decide +kernel
theorem d_Md_putBits_22 : decode prog_14_method_89_code 22 = .ok (.return_, 1) := by decide +kernel
set_option maxRecDepth 100000 in
set_option maxHeartbeats 4000000 in
theorem c_Md_putBits {l0 : Launch} (hl : l0.stackTraces = false) (n : Nat) (ids : List Nat) {t : Nat} (ht : mm_ok ids t 1 12) (a0 : Int32) (a1 : Int32) (σ : Mm) : kw_C l0 y_Md_putBits (Cond.code y_Md_putBits prog_14_method_89_code 4 none :: kw_Ts) rm_Md_putBits kw_ov ids [] [.ref t, .int a0, .int a1] σ (F_Md_putBits n t a0 a1 σ) := by
  refine kw_start (L0 := [some (.ref t), some (.int a0), some (.int a1), none]) hl (by decide +kernel) (Nat.le_of_ble_eq_true rfl) rfl (fun Γ ad C Ce => ?_)
  unfold F_Md_putBits
  refine kw_iconst (v := 0) C d_Md_putBits_0 (by decide) ?_
  refine kw_istore_n (L' := [some (.ref t), some (.int a0), some (.int a1), some (.int 0)]) C d_Md_putBits_1 (by decide) rfl ?_
  refine kw_wk (kw_l (α := Int32) (pc := 2) (Lj := fun x2 => [some (.ref t), some (.int a0), some (.int a1), some (.int x2)]) (stj := fun x2 => []) (fun k1 hk1 x2 σ3 => ?_) n 0 σ) ⟨Or.inr rfl, Or.inr rfl, Or.inr rfl, Or.inr rfl, trivial⟩
  refine kw_iload_n C d_Md_putBits_2 rfl ?_
  refine kw_iload_n C d_Md_putBits_3 rfl ?_
  refine kw_icmp_ge (tgt := 22) C d_Md_putBits_4 (by decide) ?_ ?_
  · exact kw_vret C Ce rfl (by simp) (fun _ _ => rfl) (Nat.le_of_ble_eq_true rfl) (Nat.le_of_ble_eq_true rfl) rfl d_Md_putBits_22
  · refine kw_aload_n C d_Md_putBits_7 rfl ?_
    refine kw_iload_n C d_Md_putBits_8 rfl ?_
    refine kw_iload_n C d_Md_putBits_9 rfl ?_
    refine kw_ishr C d_Md_putBits_10 ?_
    refine kw_iconst (v := 1) C d_Md_putBits_11 (by decide) ?_
    refine kw_iand C d_Md_putBits_12 ?_
    refine kw_callVv (cl' := 0) (sl' := 0) (As := [.int ((a0 >>> (x2 &&& 31)) &&& 1)]) C (c_Md_putBit hl n ids ht ((a0 >>> (x2 &&& 31)) &&& 1) σ3) mi_Md_437 v_Md_putBit ⟨_, _, rfl⟩ ht ⟨Nat.le_of_ble_eq_true rfl, Nat.le_of_ble_eq_true rfl⟩ (Nat.le_of_ble_eq_true rfl) ⟨Nat.le_of_ble_eq_true rfl, Nat.le_of_ble_eq_true rfl⟩ ⟨rfl, rfl⟩ rfl d_Md_putBits_13 (fun σ4 => ?_)
    refine kw_iincL (L2 := fun x5 => [some (.ref t), some (.int a0), some (.int a1), some (.int x5)]) C d_Md_putBits_16 (by decide) rfl (fun _ => rfl) (fun x5 => ?_)
    refine kw_goto (tgt := 2) C d_Md_putBits_19 (by decide) ?_
    exact kw_wk (hk1 x5 σ4) ⟨Or.inr rfl, Or.inr rfl, Or.inr rfl, Or.inr rfl, trivial⟩
/-! Md_putCode -/
def rm_Md_putCode : Room := { frames := 2, cells := 0, slots := 0, locals := 42 }
def F_Md_putCode (n : Nat) (t : Nat) (a0 : Int32) (a1 : Int32) (σ : Mm) : Option (Mm) :=
kf_let (a1 - 1 : Int32) fun x1 =>
kf_l (α := Int32) n (fun k2 x3 σ4 =>
if x3 < 0 then (
some σ4) else (
Option.bind (F_Md_putBit n t ((a0 >>> (x3 &&& 31)) &&& 1) σ4) fun σ5 =>
kf_let (x3 + Int32.ofInt (-1)) fun x6 =>
k2 x6 σ5)) x1 σ
theorem d_Md_putCode_0 : decode prog_14_method_90_code 0 = .ok (.iload_n 2, 1) := by decide +kernel
theorem d_Md_putCode_1 : decode prog_14_method_90_code 1 = .ok (.iconst 1, 1) := by decide +kernel
theorem d_Md_putCode_2 : decode prog_14_method_90_code 2 = .ok (.isub, 1) := by decide +kernel
theorem d_Md_putCode_3 : decode prog_14_method_90_code 3 = .ok (.istore_n 3, 1) := by decide +kernel
theorem d_Md_putCode_4 : decode prog_14_method_90_code 4 = .ok (.iload_n 3, 1) := by decide +kernel
theorem d_Md_putCode_5 : decode prog_14_method_90_code 5 = .ok (.ifCond .lt 18, 3) := by decide +kernel
theorem d_Md_putCode_8 : decode prog_14_method_90_code 8 = .ok (.aload_n 0, 1) := by decide +kernel
theorem d_Md_putCode_9 : decode prog_14_method_90_code 9 = .ok (.iload_n 1, 1) := by decide +kernel
theorem d_Md_putCode_10 : decode prog_14_method_90_code 10 = .ok (.iload_n 3, 1) := by decide +kernel
theorem d_Md_putCode_11 : decode prog_14_method_90_code 11 = .ok (.ishr, 1) := by decide +kernel
theorem d_Md_putCode_12 : decode prog_14_method_90_code 12 = .ok (.iconst 1, 1) := by decide +kernel
theorem d_Md_putCode_13 : decode prog_14_method_90_code 13 = .ok (.iand, 1) := by decide +kernel
theorem d_Md_putCode_14 : decode prog_14_method_90_code 14 = .ok (.invokevirtual 437, 3) := by decide +kernel
theorem d_Md_putCode_17 : decode prog_14_method_90_code 17 = .ok (.iinc 3 (-1), 3) := by decide +kernel
theorem d_Md_putCode_20 : decode prog_14_method_90_code 20 = .ok (.goto (-16), 3) := by decide +kernel
theorem d_Md_putCode_23 : decode prog_14_method_90_code 23 = .ok (.return_, 1) := by decide +kernel
set_option maxRecDepth 100000 in
set_option maxHeartbeats 4000000 in
theorem c_Md_putCode {l0 : Launch} (hl : l0.stackTraces = false) (n : Nat) (ids : List Nat) {t : Nat} (ht : mm_ok ids t 1 12) (a0 : Int32) (a1 : Int32) (σ : Mm) : kw_C l0 y_Md_putCode (Cond.code y_Md_putCode prog_14_method_90_code 4 none :: kw_Ts) rm_Md_putCode kw_ov ids [] [.ref t, .int a0, .int a1] σ (F_Md_putCode n t a0 a1 σ) := by
  refine kw_start (L0 := [some (.ref t), some (.int a0), some (.int a1), none]) hl (by decide +kernel) (Nat.le_of_ble_eq_true rfl) rfl (fun Γ ad C Ce => ?_)
  unfold F_Md_putCode
  refine kw_iload_n C d_Md_putCode_0 rfl ?_
  refine kw_iconst (v := 1) C d_Md_putCode_1 (by decide) ?_
  refine kw_isub C d_Md_putCode_2 ?_
  refine kw_leti (fun x1 => ?_)
  refine kw_istore_n (L' := [some (.ref t), some (.int a0), some (.int a1), some (.int x1)]) C d_Md_putCode_3 (by decide) rfl ?_
  refine kw_wk (kw_l (α := Int32) (pc := 4) (Lj := fun x3 => [some (.ref t), some (.int a0), none, some (.int x3)]) (stj := fun x3 => []) (fun k2 hk2 x3 σ4 => ?_) n x1 σ) ⟨Or.inr rfl, Or.inr rfl, Or.inl rfl, Or.inr rfl, trivial⟩
  refine kw_iload_n C d_Md_putCode_4 rfl ?_
  refine kw_if_lt (tgt := 23) C d_Md_putCode_5 (by decide) ?_ ?_
  · exact kw_vret C Ce rfl (by simp) (fun _ _ => rfl) (Nat.le_of_ble_eq_true rfl) (Nat.le_of_ble_eq_true rfl) rfl d_Md_putCode_23
  · refine kw_aload_n C d_Md_putCode_8 rfl ?_
    refine kw_iload_n C d_Md_putCode_9 rfl ?_
    refine kw_iload_n C d_Md_putCode_10 rfl ?_
    refine kw_ishr C d_Md_putCode_11 ?_
    refine kw_iconst (v := 1) C d_Md_putCode_12 (by decide) ?_
    refine kw_iand C d_Md_putCode_13 ?_
    refine kw_callVv (cl' := 0) (sl' := 0) (As := [.int ((a0 >>> (x3 &&& 31)) &&& 1)]) C (c_Md_putBit hl n ids ht ((a0 >>> (x3 &&& 31)) &&& 1) σ4) mi_Md_437 v_Md_putBit ⟨_, _, rfl⟩ ht ⟨Nat.le_of_ble_eq_true rfl, Nat.le_of_ble_eq_true rfl⟩ (Nat.le_of_ble_eq_true rfl) ⟨Nat.le_of_ble_eq_true rfl, Nat.le_of_ble_eq_true rfl⟩ ⟨rfl, rfl⟩ rfl d_Md_putCode_14 (fun σ5 => ?_)
    refine kw_iincL (L2 := fun x6 => [some (.ref t), some (.int a0), none, some (.int x6)]) C d_Md_putCode_17 (by decide) rfl (fun _ => rfl) (fun x6 => ?_)
    refine kw_goto (tgt := 4) C d_Md_putCode_20 (by decide) ?_
    exact kw_wk (hk2 x6 σ5) ⟨Or.inr rfl, Or.inr rfl, Or.inl rfl, Or.inr rfl, trivial⟩
/-! Md_putSign -/
def rm_Md_putSign : Room := { frames := 3, cells := 0, slots := 0, locals := 65 }
def F_Md_putSign (n : Nat) (t : Nat) (a0 : Int32) (σ : Mm) : Option (Mm) :=
kf_j (α := Unit) (fun x2 σ3 =>
some σ3) fun k1 =>
if 144 ≤ a0 then (
if 256 ≤ a0 then (
if 280 ≤ a0 then (
Option.bind (F_Md_putCode n t (((192 : Int32) + a0) - 280) 8 σ) fun σ4 =>
k1 () σ4) else (
Option.bind (F_Md_putCode n t (a0 - 256) 7 σ) fun σ5 =>
k1 () σ5)) else (
Option.bind (F_Md_putCode n t (((400 : Int32) + a0) - 144) 9 σ) fun σ6 =>
k1 () σ6)) else (
Option.bind (F_Md_putCode n t ((48 : Int32) + a0) 8 σ) fun σ7 =>
k1 () σ7)
theorem d_Md_putSign_0 : decode prog_14_method_91_code 0 = .ok (.iload_n 1, 1) := by decide +kernel
theorem d_Md_putSign_1 : decode prog_14_method_91_code 1 = .ok (.sipush 144, 3) := by decide +kernel
theorem d_Md_putSign_4 : decode prog_14_method_91_code 4 = .ok (.if_icmp .ge 16, 3) := by decide +kernel
theorem d_Md_putSign_7 : decode prog_14_method_91_code 7 = .ok (.aload_n 0, 1) := by decide +kernel
theorem d_Md_putSign_8 : decode prog_14_method_91_code 8 = .ok (.bipush 48, 2) := by decide +kernel
theorem d_Md_putSign_10 : decode prog_14_method_91_code 10 = .ok (.iload_n 1, 1) := by decide +kernel
theorem d_Md_putSign_11 : decode prog_14_method_91_code 11 = .ok (.iadd, 1) := by decide +kernel
theorem d_Md_putSign_12 : decode prog_14_method_91_code 12 = .ok (.bipush 8, 2) := by decide +kernel
theorem d_Md_putSign_14 : decode prog_14_method_91_code 14 = .ok (.invokevirtual 440, 3) := by decide +kernel
theorem d_Md_putSign_17 : decode prog_14_method_91_code 17 = .ok (.goto 64, 3) := by decide +kernel
theorem d_Md_putSign_20 : decode prog_14_method_91_code 20 = .ok (.iload_n 1, 1) := by decide +kernel
theorem d_Md_putSign_21 : decode prog_14_method_91_code 21 = .ok (.sipush 256, 3) := by decide +kernel
theorem d_Md_putSign_24 : decode prog_14_method_91_code 24 = .ok (.if_icmp .ge 21, 3) := by decide +kernel
theorem d_Md_putSign_27 : decode prog_14_method_91_code 27 = .ok (.aload_n 0, 1) := by decide +kernel
theorem d_Md_putSign_28 : decode prog_14_method_91_code 28 = .ok (.sipush 400, 3) := by decide +kernel
theorem d_Md_putSign_31 : decode prog_14_method_91_code 31 = .ok (.iload_n 1, 1) := by decide +kernel
theorem d_Md_putSign_32 : decode prog_14_method_91_code 32 = .ok (.iadd, 1) := by decide +kernel
theorem d_Md_putSign_33 : decode prog_14_method_91_code 33 = .ok (.sipush 144, 3) := by decide +kernel
theorem d_Md_putSign_36 : decode prog_14_method_91_code 36 = .ok (.isub, 1) := by decide +kernel
theorem d_Md_putSign_37 : decode prog_14_method_91_code 37 = .ok (.bipush 9, 2) := by decide +kernel
theorem d_Md_putSign_39 : decode prog_14_method_91_code 39 = .ok (.invokevirtual 440, 3) := by decide +kernel
theorem d_Md_putSign_42 : decode prog_14_method_91_code 42 = .ok (.goto 39, 3) := by decide +kernel
theorem d_Md_putSign_45 : decode prog_14_method_91_code 45 = .ok (.iload_n 1, 1) := by decide +kernel
theorem d_Md_putSign_46 : decode prog_14_method_91_code 46 = .ok (.sipush 280, 3) := by decide +kernel
theorem d_Md_putSign_49 : decode prog_14_method_91_code 49 = .ok (.if_icmp .ge 17, 3) := by decide +kernel
theorem d_Md_putSign_52 : decode prog_14_method_91_code 52 = .ok (.aload_n 0, 1) := by decide +kernel
theorem d_Md_putSign_53 : decode prog_14_method_91_code 53 = .ok (.iload_n 1, 1) := by decide +kernel
theorem d_Md_putSign_54 : decode prog_14_method_91_code 54 = .ok (.sipush 256, 3) := by decide +kernel
theorem d_Md_putSign_57 : decode prog_14_method_91_code 57 = .ok (.isub, 1) := by decide +kernel
theorem d_Md_putSign_58 : decode prog_14_method_91_code 58 = .ok (.bipush 7, 2) := by decide +kernel
theorem d_Md_putSign_60 : decode prog_14_method_91_code 60 = .ok (.invokevirtual 440, 3) := by decide +kernel
theorem d_Md_putSign_63 : decode prog_14_method_91_code 63 = .ok (.goto 18, 3) := by decide +kernel
theorem d_Md_putSign_66 : decode prog_14_method_91_code 66 = .ok (.aload_n 0, 1) := by decide +kernel
theorem d_Md_putSign_67 : decode prog_14_method_91_code 67 = .ok (.sipush 192, 3) := by decide +kernel
theorem d_Md_putSign_70 : decode prog_14_method_91_code 70 = .ok (.iload_n 1, 1) := by decide +kernel
theorem d_Md_putSign_71 : decode prog_14_method_91_code 71 = .ok (.iadd, 1) := by decide +kernel
theorem d_Md_putSign_72 : decode prog_14_method_91_code 72 = .ok (.sipush 280, 3) := by decide +kernel
theorem d_Md_putSign_75 : decode prog_14_method_91_code 75 = .ok (.isub, 1) := by decide +kernel
theorem d_Md_putSign_76 : decode prog_14_method_91_code 76 = .ok (.bipush 8, 2) := by decide +kernel
theorem d_Md_putSign_78 : decode prog_14_method_91_code 78 = .ok (.invokevirtual 440, 3) := by decide +kernel
theorem d_Md_putSign_81 : decode prog_14_method_91_code 81 = .ok (.return_, 1) := by decide +kernel
set_option maxRecDepth 100000 in
set_option maxHeartbeats 4000000 in
theorem c_Md_putSign {l0 : Launch} (hl : l0.stackTraces = false) (n : Nat) (ids : List Nat) {t : Nat} (ht : mm_ok ids t 1 12) (a0 : Int32) (σ : Mm) : kw_C l0 y_Md_putSign (Cond.code y_Md_putSign prog_14_method_91_code 2 none :: kw_Ts) rm_Md_putSign kw_ov ids [] [.ref t, .int a0] σ (F_Md_putSign n t a0 σ) := by
  refine kw_start (L0 := [some (.ref t), some (.int a0)]) hl (by decide +kernel) (Nat.le_of_ble_eq_true rfl) rfl (fun Γ ad C Ce => ?_)
  unfold F_Md_putSign
  refine kw_iload_n C d_Md_putSign_0 rfl ?_
  refine kw_sipush (v := 144) C d_Md_putSign_1 (by decide) ?_
  refine kw_j (α := Unit) (pcj := 81) (Lj := fun x2 => [none, none]) (stj := fun x2 => []) (fun x2 σ3 => ?_) (fun k1 hk1 => ?_)
  · exact kw_vret C Ce rfl (by simp) (fun _ _ => rfl) (Nat.le_of_ble_eq_true rfl) (Nat.le_of_ble_eq_true rfl) rfl d_Md_putSign_81
  · refine kw_icmp_ge (tgt := 20) C d_Md_putSign_4 (by decide) ?_ ?_
    · refine kw_iload_n C d_Md_putSign_20 rfl ?_
      refine kw_sipush (v := 256) C d_Md_putSign_21 (by decide) ?_
      refine kw_icmp_ge (tgt := 45) C d_Md_putSign_24 (by decide) ?_ ?_
      · refine kw_iload_n C d_Md_putSign_45 rfl ?_
        refine kw_sipush (v := 280) C d_Md_putSign_46 (by decide) ?_
        refine kw_icmp_ge (tgt := 66) C d_Md_putSign_49 (by decide) ?_ ?_
        · refine kw_aload_n C d_Md_putSign_66 rfl ?_
          refine kw_sipush (v := 192) C d_Md_putSign_67 (by decide) ?_
          refine kw_iload_n C d_Md_putSign_70 rfl ?_
          refine kw_iadd C d_Md_putSign_71 ?_
          refine kw_sipush (v := 280) C d_Md_putSign_72 (by decide) ?_
          refine kw_isub C d_Md_putSign_75 ?_
          refine kw_bipush (v := 8) C d_Md_putSign_76 (by decide) ?_
          refine kw_callVv (cl' := 0) (sl' := 0) (As := [.int (((192 : Int32) + a0) - 280), .int 8]) C (c_Md_putCode hl n ids ht (((192 : Int32) + a0) - 280) 8 σ) mi_Md_440 v_Md_putCode ⟨_, _, rfl⟩ ht ⟨Nat.le_of_ble_eq_true rfl, Nat.le_of_ble_eq_true rfl⟩ (Nat.le_of_ble_eq_true rfl) ⟨Nat.le_of_ble_eq_true rfl, Nat.le_of_ble_eq_true rfl⟩ ⟨rfl, rfl⟩ rfl d_Md_putSign_78 (fun σ4 => ?_)
          exact kw_wk (hk1 () σ4) ⟨Or.inl rfl, Or.inl rfl, trivial⟩
        · refine kw_aload_n C d_Md_putSign_52 rfl ?_
          refine kw_iload_n C d_Md_putSign_53 rfl ?_
          refine kw_sipush (v := 256) C d_Md_putSign_54 (by decide) ?_
          refine kw_isub C d_Md_putSign_57 ?_
          refine kw_bipush (v := 7) C d_Md_putSign_58 (by decide) ?_
          refine kw_callVv (cl' := 0) (sl' := 0) (As := [.int (a0 - 256), .int 7]) C (c_Md_putCode hl n ids ht (a0 - 256) 7 σ) mi_Md_440 v_Md_putCode ⟨_, _, rfl⟩ ht ⟨Nat.le_of_ble_eq_true rfl, Nat.le_of_ble_eq_true rfl⟩ (Nat.le_of_ble_eq_true rfl) ⟨Nat.le_of_ble_eq_true rfl, Nat.le_of_ble_eq_true rfl⟩ ⟨rfl, rfl⟩ rfl d_Md_putSign_60 (fun σ5 => ?_)
          refine kw_goto (tgt := 81) C d_Md_putSign_63 (by decide) ?_
          exact kw_wk (hk1 () σ5) ⟨Or.inl rfl, Or.inl rfl, trivial⟩
      · refine kw_aload_n C d_Md_putSign_27 rfl ?_
        refine kw_sipush (v := 400) C d_Md_putSign_28 (by decide) ?_
        refine kw_iload_n C d_Md_putSign_31 rfl ?_
        refine kw_iadd C d_Md_putSign_32 ?_
        refine kw_sipush (v := 144) C d_Md_putSign_33 (by decide) ?_
        refine kw_isub C d_Md_putSign_36 ?_
        refine kw_bipush (v := 9) C d_Md_putSign_37 (by decide) ?_
        refine kw_callVv (cl' := 0) (sl' := 0) (As := [.int (((400 : Int32) + a0) - 144), .int 9]) C (c_Md_putCode hl n ids ht (((400 : Int32) + a0) - 144) 9 σ) mi_Md_440 v_Md_putCode ⟨_, _, rfl⟩ ht ⟨Nat.le_of_ble_eq_true rfl, Nat.le_of_ble_eq_true rfl⟩ (Nat.le_of_ble_eq_true rfl) ⟨Nat.le_of_ble_eq_true rfl, Nat.le_of_ble_eq_true rfl⟩ ⟨rfl, rfl⟩ rfl d_Md_putSign_39 (fun σ6 => ?_)
        refine kw_goto (tgt := 81) C d_Md_putSign_42 (by decide) ?_
        exact kw_wk (hk1 () σ6) ⟨Or.inl rfl, Or.inl rfl, trivial⟩
    · refine kw_aload_n C d_Md_putSign_7 rfl ?_
      refine kw_bipush (v := 48) C d_Md_putSign_8 (by decide) ?_
      refine kw_iload_n C d_Md_putSign_10 rfl ?_
      refine kw_iadd C d_Md_putSign_11 ?_
      refine kw_bipush (v := 8) C d_Md_putSign_12 (by decide) ?_
      refine kw_callVv (cl' := 0) (sl' := 0) (As := [.int ((48 : Int32) + a0), .int 8]) C (c_Md_putCode hl n ids ht ((48 : Int32) + a0) 8 σ) mi_Md_440 v_Md_putCode ⟨_, _, rfl⟩ ht ⟨Nat.le_of_ble_eq_true rfl, Nat.le_of_ble_eq_true rfl⟩ (Nat.le_of_ble_eq_true rfl) ⟨Nat.le_of_ble_eq_true rfl, Nat.le_of_ble_eq_true rfl⟩ ⟨rfl, rfl⟩ rfl d_Md_putSign_14 (fun σ7 => ?_)
      refine kw_goto (tgt := 81) C d_Md_putSign_17 (by decide) ?_
      exact kw_wk (hk1 () σ7) ⟨Or.inl rfl, Or.inl rfl, trivial⟩
/-! Md_putCopy -/
def rm_Md_putCopy : Room := { frames := 4, cells := 0, slots := 0, locals := 86 }
def F_Md_putCopy (n : Nat) (t : Nat) (a0 : Int32) (a1 : Int32) (σ : Mm) : Option (Mm) :=
kf_l (α := Int32) n (fun k1 x2 σ3 =>
kf_j (α := Unit) (fun x5 σ6 =>
Option.bind (F_Md_putSign n t x2 σ6) fun σ7 =>
kf_c2 (F_Md_lengthFrom n x2 σ7) fun x8 σ9 =>
kf_c2 (F_Md_moreBits n x2 σ9) fun x10 σ11 =>
Option.bind (F_Md_putBits n t (a0 - x8) x10 σ11) fun σ12 =>
kf_l (α := Int32) n (fun k13 x14 σ15 =>
kf_j (α := Unit) (fun x17 σ18 =>
Option.bind (F_Md_putCode n t x14 5 σ18) fun σ19 =>
kf_c2 (F_Md_distanceFrom n x14 σ19) fun x20 σ21 =>
kf_c2 (F_Md_moreDistance n x14 σ21) fun x22 σ23 =>
Option.bind (F_Md_putBits n t (a1 - x20) x22 σ23) fun σ24 =>
some σ24) fun k16 =>
if 29 ≤ x14 then (
k16 () σ15) else (
kf_c2 (F_Md_distanceFrom n (x14 + 1) σ15) fun x25 σ26 =>
if a1 < x25 then (
k16 () σ26) else (
kf_let (x14 + Int32.ofInt 1) fun x27 =>
k13 x27 σ26))) 0 σ12) fun k4 =>
if 285 ≤ x2 then (
k4 () σ3) else (
kf_c2 (F_Md_lengthFrom n (x2 + 1) σ3) fun x28 σ29 =>
if a0 < x28 then (
k4 () σ29) else (
kf_let (x2 + Int32.ofInt 1) fun x30 =>
k1 x30 σ29))) 257 σ
theorem d_Md_putCopy_0 : decode prog_14_method_93_code 0 = .ok (.sipush 257, 3) := by decide +kernel
theorem d_Md_putCopy_3 : decode prog_14_method_93_code 3 = .ok (.istore_n 3, 1) := by decide +kernel
theorem d_Md_putCopy_4 : decode prog_14_method_93_code 4 = .ok (.iload_n 3, 1) := by decide +kernel
theorem d_Md_putCopy_5 : decode prog_14_method_93_code 5 = .ok (.sipush 285, 3) := by decide +kernel
theorem d_Md_putCopy_8 : decode prog_14_method_93_code 8 = .ok (.if_icmp .ge 19, 3) := by decide +kernel
theorem d_Md_putCopy_11 : decode prog_14_method_93_code 11 = .ok (.iload_n 3, 1) := by decide +kernel
theorem d_Md_putCopy_12 : decode prog_14_method_93_code 12 = .ok (.iconst 1, 1) := by decide +kernel
theorem d_Md_putCopy_13 : decode prog_14_method_93_code 13 = .ok (.iadd, 1) := by decide +kernel
theorem d_Md_putCopy_14 : decode prog_14_method_93_code 14 = .ok (.invokestatic 299, 3) := by decide +kernel
theorem d_Md_putCopy_17 : decode prog_14_method_93_code 17 = .ok (.iload_n 1, 1) := by decide +kernel
theorem d_Md_putCopy_18 : decode prog_14_method_93_code 18 = .ok (.if_icmp .gt 9, 3) := by decide +kernel
theorem d_Md_putCopy_21 : decode prog_14_method_93_code 21 = .ok (.iinc 3 1, 3) := by decide +kernel
theorem d_Md_putCopy_24 : decode prog_14_method_93_code 24 = .ok (.goto (-20), 3) := by decide +kernel
theorem d_Md_putCopy_27 : decode prog_14_method_93_code 27 = .ok (.aload_n 0, 1) := by decide +kernel
theorem d_Md_putCopy_28 : decode prog_14_method_93_code 28 = .ok (.iload_n 3, 1) := by decide +kernel
theorem d_Md_putCopy_29 : decode prog_14_method_93_code 29 = .ok (.invokevirtual 446, 3) := by decide +kernel
theorem d_Md_putCopy_32 : decode prog_14_method_93_code 32 = .ok (.aload_n 0, 1) := by decide +kernel
theorem d_Md_putCopy_33 : decode prog_14_method_93_code 33 = .ok (.iload_n 1, 1) := by decide +kernel
theorem d_Md_putCopy_34 : decode prog_14_method_93_code 34 = .ok (.iload_n 3, 1) := by decide +kernel
theorem d_Md_putCopy_35 : decode prog_14_method_93_code 35 = .ok (.invokestatic 299, 3) := by decide +kernel
theorem d_Md_putCopy_38 : decode prog_14_method_93_code 38 = .ok (.isub, 1) := by decide +kernel
theorem d_Md_putCopy_39 : decode prog_14_method_93_code 39 = .ok (.iload_n 3, 1) := by decide +kernel
theorem d_Md_putCopy_40 : decode prog_14_method_93_code 40 = .ok (.invokestatic 293, 3) := by decide +kernel
theorem d_Md_putCopy_43 : decode prog_14_method_93_code 43 = .ok (.invokevirtual 443, 3) := by decide +kernel
theorem d_Md_putCopy_46 : decode prog_14_method_93_code 46 = .ok (.iconst 0, 1) := by decide +kernel
theorem d_Md_putCopy_47 : decode prog_14_method_93_code 47 = .ok (.istore 4, 2) := by decide +kernel
theorem d_Md_putCopy_49 : decode prog_14_method_93_code 49 = .ok (.iload 4, 2) := by decide +kernel
theorem d_Md_putCopy_51 : decode prog_14_method_93_code 51 = .ok (.bipush 29, 2) := by decide +kernel
theorem d_Md_putCopy_53 : decode prog_14_method_93_code 53 = .ok (.if_icmp .ge 20, 3) := by decide +kernel
theorem d_Md_putCopy_56 : decode prog_14_method_93_code 56 = .ok (.iload 4, 2) := by decide +kernel
theorem d_Md_putCopy_58 : decode prog_14_method_93_code 58 = .ok (.iconst 1, 1) := by decide +kernel
theorem d_Md_putCopy_59 : decode prog_14_method_93_code 59 = .ok (.iadd, 1) := by decide +kernel
theorem d_Md_putCopy_60 : decode prog_14_method_93_code 60 = .ok (.invokestatic 302, 3) := by decide +kernel
theorem d_Md_putCopy_63 : decode prog_14_method_93_code 63 = .ok (.iload_n 2, 1) := by decide +kernel
theorem d_Md_putCopy_64 : decode prog_14_method_93_code 64 = .ok (.if_icmp .gt 9, 3) := by decide +kernel
theorem d_Md_putCopy_67 : decode prog_14_method_93_code 67 = .ok (.iinc 4 1, 3) := by decide +kernel
theorem d_Md_putCopy_70 : decode prog_14_method_93_code 70 = .ok (.goto (-21), 3) := by decide +kernel
theorem d_Md_putCopy_73 : decode prog_14_method_93_code 73 = .ok (.aload_n 0, 1) := by decide +kernel
theorem d_Md_putCopy_74 : decode prog_14_method_93_code 74 = .ok (.iload 4, 2) := by decide +kernel
theorem d_Md_putCopy_76 : decode prog_14_method_93_code 76 = .ok (.iconst 5, 1) := by decide +kernel
theorem d_Md_putCopy_77 : decode prog_14_method_93_code 77 = .ok (.invokevirtual 440, 3) := by decide +kernel
theorem d_Md_putCopy_80 : decode prog_14_method_93_code 80 = .ok (.aload_n 0, 1) := by decide +kernel
theorem d_Md_putCopy_81 : decode prog_14_method_93_code 81 = .ok (.iload_n 2, 1) := by decide +kernel
theorem d_Md_putCopy_82 : decode prog_14_method_93_code 82 = .ok (.iload 4, 2) := by decide +kernel
theorem d_Md_putCopy_84 : decode prog_14_method_93_code 84 = .ok (.invokestatic 302, 3) := by decide +kernel
theorem d_Md_putCopy_87 : decode prog_14_method_93_code 87 = .ok (.isub, 1) := by decide +kernel
theorem d_Md_putCopy_88 : decode prog_14_method_93_code 88 = .ok (.iload 4, 2) := by decide +kernel
theorem d_Md_putCopy_90 : decode prog_14_method_93_code 90 = .ok (.invokestatic 296, 3) := by decide +kernel
theorem d_Md_putCopy_93 : decode prog_14_method_93_code 93 = .ok (.invokevirtual 443, 3) := by decide +kernel
theorem d_Md_putCopy_96 : decode prog_14_method_93_code 96 = .ok (.return_, 1) := by decide +kernel
set_option maxRecDepth 100000 in
set_option maxHeartbeats 4000000 in
theorem c_Md_putCopy {l0 : Launch} (hl : l0.stackTraces = false) (n : Nat) (ids : List Nat) {t : Nat} (ht : mm_ok ids t 1 12) (a0 : Int32) (a1 : Int32) (σ : Mm) : kw_C l0 y_Md_putCopy (Cond.code y_Md_putCopy prog_14_method_93_code 5 none :: kw_Ts) rm_Md_putCopy kw_ov ids [] [.ref t, .int a0, .int a1] σ (F_Md_putCopy n t a0 a1 σ) := by
  refine kw_start (L0 := [some (.ref t), some (.int a0), some (.int a1), none, none]) hl (by decide +kernel) (Nat.le_of_ble_eq_true rfl) rfl (fun Γ ad C Ce => ?_)
  unfold F_Md_putCopy
  refine kw_sipush (v := 257) C d_Md_putCopy_0 (by decide) ?_
  refine kw_istore_n (L' := [some (.ref t), some (.int a0), some (.int a1), some (.int 257), none]) C d_Md_putCopy_3 (by decide) rfl ?_
  refine kw_wk (kw_l (α := Int32) (pc := 4) (Lj := fun x2 => [some (.ref t), some (.int a0), some (.int a1), some (.int x2), none]) (stj := fun x2 => []) (fun k1 hk1 x2 σ3 => ?_) n 257 σ) ⟨Or.inr rfl, Or.inr rfl, Or.inr rfl, Or.inr rfl, Or.inl rfl, trivial⟩
  refine kw_iload_n C d_Md_putCopy_4 rfl ?_
  refine kw_sipush (v := 285) C d_Md_putCopy_5 (by decide) ?_
  refine kw_j (α := Unit) (pcj := 27) (Lj := fun x5 => [some (.ref t), some (.int a0), some (.int a1), some (.int x2), none]) (stj := fun x5 => []) (fun x5 σ6 => ?_) (fun k4 hk4 => ?_)
  · refine kw_aload_n C d_Md_putCopy_27 rfl ?_
    refine kw_iload_n C d_Md_putCopy_28 rfl ?_
    refine kw_callVv (cl' := 0) (sl' := 0) (As := [.int x2]) C (c_Md_putSign hl n ids ht x2 σ6) mi_Md_446 v_Md_putSign ⟨_, _, rfl⟩ ht ⟨Nat.le_of_ble_eq_true rfl, Nat.le_of_ble_eq_true rfl⟩ (Nat.le_of_ble_eq_true rfl) ⟨Nat.le_of_ble_eq_true rfl, Nat.le_of_ble_eq_true rfl⟩ ⟨rfl, rfl⟩ rfl d_Md_putCopy_29 (fun σ7 => ?_)
    refine kw_aload_n C d_Md_putCopy_32 rfl ?_
    refine kw_iload_n C d_Md_putCopy_33 rfl ?_
    refine kw_iload_n C d_Md_putCopy_34 rfl ?_
    refine kw_callSi (cl' := 0) (sl' := 0) (As := [.int x2]) C (c_Md_lengthFrom hl n ids  x2 σ7) mi_Md_299 s_Md_lengthFrom ⟨Nat.le_of_ble_eq_true rfl, Nat.le_of_ble_eq_true rfl⟩ (Nat.le_of_ble_eq_true rfl) ⟨Nat.le_of_ble_eq_true rfl, Nat.le_of_ble_eq_true rfl⟩ ⟨rfl, rfl⟩ rfl d_Md_putCopy_35 (fun x8 σ9 => ?_)
    refine kw_isub C d_Md_putCopy_38 ?_
    refine kw_iload_n C d_Md_putCopy_39 rfl ?_
    refine kw_callSi (cl' := 0) (sl' := 0) (As := [.int x2]) C (c_Md_moreBits hl n ids  x2 σ9) mi_Md_293 s_Md_moreBits ⟨Nat.le_of_ble_eq_true rfl, Nat.le_of_ble_eq_true rfl⟩ (Nat.le_of_ble_eq_true rfl) ⟨Nat.le_of_ble_eq_true rfl, Nat.le_of_ble_eq_true rfl⟩ ⟨rfl, rfl⟩ rfl d_Md_putCopy_40 (fun x10 σ11 => ?_)
    refine kw_callVv (cl' := 0) (sl' := 0) (As := [.int (a0 - x8), .int x10]) C (c_Md_putBits hl n ids ht (a0 - x8) x10 σ11) mi_Md_443 v_Md_putBits ⟨_, _, rfl⟩ ht ⟨Nat.le_of_ble_eq_true rfl, Nat.le_of_ble_eq_true rfl⟩ (Nat.le_of_ble_eq_true rfl) ⟨Nat.le_of_ble_eq_true rfl, Nat.le_of_ble_eq_true rfl⟩ ⟨rfl, rfl⟩ rfl d_Md_putCopy_43 (fun σ12 => ?_)
    refine kw_iconst (v := 0) C d_Md_putCopy_46 (by decide) ?_
    refine kw_istore (L' := [some (.ref t), some (.int a0), some (.int a1), some (.int x2), some (.int 0)]) C d_Md_putCopy_47 (by decide) rfl ?_
    refine kw_wk (kw_l (α := Int32) (pc := 49) (Lj := fun x14 => [some (.ref t), none, some (.int a1), none, some (.int x14)]) (stj := fun x14 => []) (fun k13 hk13 x14 σ15 => ?_) n 0 σ12) ⟨Or.inr rfl, Or.inl rfl, Or.inr rfl, Or.inl rfl, Or.inr rfl, trivial⟩
    refine kw_iload C d_Md_putCopy_49 rfl ?_
    refine kw_bipush (v := 29) C d_Md_putCopy_51 (by decide) ?_
    refine kw_j (α := Unit) (pcj := 73) (Lj := fun x17 => [some (.ref t), none, some (.int a1), none, some (.int x14)]) (stj := fun x17 => []) (fun x17 σ18 => ?_) (fun k16 hk16 => ?_)
    · refine kw_aload_n C d_Md_putCopy_73 rfl ?_
      refine kw_iload C d_Md_putCopy_74 rfl ?_
      refine kw_iconst (v := 5) C d_Md_putCopy_76 (by decide) ?_
      refine kw_callVv (cl' := 0) (sl' := 0) (As := [.int x14, .int 5]) C (c_Md_putCode hl n ids ht x14 5 σ18) mi_Md_440 v_Md_putCode ⟨_, _, rfl⟩ ht ⟨Nat.le_of_ble_eq_true rfl, Nat.le_of_ble_eq_true rfl⟩ (Nat.le_of_ble_eq_true rfl) ⟨Nat.le_of_ble_eq_true rfl, Nat.le_of_ble_eq_true rfl⟩ ⟨rfl, rfl⟩ rfl d_Md_putCopy_77 (fun σ19 => ?_)
      refine kw_aload_n C d_Md_putCopy_80 rfl ?_
      refine kw_iload_n C d_Md_putCopy_81 rfl ?_
      refine kw_iload C d_Md_putCopy_82 rfl ?_
      refine kw_callSi (cl' := 0) (sl' := 0) (As := [.int x14]) C (c_Md_distanceFrom hl n ids  x14 σ19) mi_Md_302 s_Md_distanceFrom ⟨Nat.le_of_ble_eq_true rfl, Nat.le_of_ble_eq_true rfl⟩ (Nat.le_of_ble_eq_true rfl) ⟨Nat.le_of_ble_eq_true rfl, Nat.le_of_ble_eq_true rfl⟩ ⟨rfl, rfl⟩ rfl d_Md_putCopy_84 (fun x20 σ21 => ?_)
      refine kw_isub C d_Md_putCopy_87 ?_
      refine kw_iload C d_Md_putCopy_88 rfl ?_
      refine kw_callSi (cl' := 0) (sl' := 0) (As := [.int x14]) C (c_Md_moreDistance hl n ids  x14 σ21) mi_Md_296 s_Md_moreDistance ⟨Nat.le_of_ble_eq_true rfl, Nat.le_of_ble_eq_true rfl⟩ (Nat.le_of_ble_eq_true rfl) ⟨Nat.le_of_ble_eq_true rfl, Nat.le_of_ble_eq_true rfl⟩ ⟨rfl, rfl⟩ rfl d_Md_putCopy_90 (fun x22 σ23 => ?_)
      refine kw_callVv (cl' := 0) (sl' := 0) (As := [.int (a1 - x20), .int x22]) C (c_Md_putBits hl n ids ht (a1 - x20) x22 σ23) mi_Md_443 v_Md_putBits ⟨_, _, rfl⟩ ht ⟨Nat.le_of_ble_eq_true rfl, Nat.le_of_ble_eq_true rfl⟩ (Nat.le_of_ble_eq_true rfl) ⟨Nat.le_of_ble_eq_true rfl, Nat.le_of_ble_eq_true rfl⟩ ⟨rfl, rfl⟩ rfl d_Md_putCopy_93 (fun σ24 => ?_)
      exact kw_vret C Ce rfl (by simp) (fun _ _ => rfl) (Nat.le_of_ble_eq_true rfl) (Nat.le_of_ble_eq_true rfl) rfl d_Md_putCopy_96
    · refine kw_icmp_ge (tgt := 73) C d_Md_putCopy_53 (by decide) ?_ ?_
      · exact kw_wk (hk16 () σ15) ⟨Or.inr rfl, Or.inl rfl, Or.inr rfl, Or.inl rfl, Or.inr rfl, trivial⟩
      · refine kw_iload C d_Md_putCopy_56 rfl ?_
        refine kw_iconst (v := 1) C d_Md_putCopy_58 (by decide) ?_
        refine kw_iadd C d_Md_putCopy_59 ?_
        refine kw_callSi (cl' := 0) (sl' := 0) (As := [.int (x14 + 1)]) C (c_Md_distanceFrom hl n ids  (x14 + 1) σ15) mi_Md_302 s_Md_distanceFrom ⟨Nat.le_of_ble_eq_true rfl, Nat.le_of_ble_eq_true rfl⟩ (Nat.le_of_ble_eq_true rfl) ⟨Nat.le_of_ble_eq_true rfl, Nat.le_of_ble_eq_true rfl⟩ ⟨rfl, rfl⟩ rfl d_Md_putCopy_60 (fun x25 σ26 => ?_)
        refine kw_iload_n C d_Md_putCopy_63 rfl ?_
        refine kw_icmp_gt (tgt := 73) C d_Md_putCopy_64 (by decide) ?_ ?_
        · exact kw_wk (hk16 () σ26) ⟨Or.inr rfl, Or.inl rfl, Or.inr rfl, Or.inl rfl, Or.inr rfl, trivial⟩
        · refine kw_iincL (L2 := fun x27 => [some (.ref t), none, some (.int a1), none, some (.int x27)]) C d_Md_putCopy_67 (by decide) rfl (fun _ => rfl) (fun x27 => ?_)
          refine kw_goto (tgt := 49) C d_Md_putCopy_70 (by decide) ?_
          exact kw_wk (hk13 x27 σ26) ⟨Or.inr rfl, Or.inl rfl, Or.inr rfl, Or.inl rfl, Or.inr rfl, trivial⟩
  · refine kw_icmp_ge (tgt := 27) C d_Md_putCopy_8 (by decide) ?_ ?_
    · exact kw_wk (hk4 () σ3) ⟨Or.inr rfl, Or.inr rfl, Or.inr rfl, Or.inr rfl, Or.inl rfl, trivial⟩
    · refine kw_iload_n C d_Md_putCopy_11 rfl ?_
      refine kw_iconst (v := 1) C d_Md_putCopy_12 (by decide) ?_
      refine kw_iadd C d_Md_putCopy_13 ?_
      refine kw_callSi (cl' := 0) (sl' := 0) (As := [.int (x2 + 1)]) C (c_Md_lengthFrom hl n ids  (x2 + 1) σ3) mi_Md_299 s_Md_lengthFrom ⟨Nat.le_of_ble_eq_true rfl, Nat.le_of_ble_eq_true rfl⟩ (Nat.le_of_ble_eq_true rfl) ⟨Nat.le_of_ble_eq_true rfl, Nat.le_of_ble_eq_true rfl⟩ ⟨rfl, rfl⟩ rfl d_Md_putCopy_14 (fun x28 σ29 => ?_)
      refine kw_iload_n C d_Md_putCopy_17 rfl ?_
      refine kw_icmp_gt (tgt := 27) C d_Md_putCopy_18 (by decide) ?_ ?_
      · exact kw_wk (hk4 () σ29) ⟨Or.inr rfl, Or.inr rfl, Or.inr rfl, Or.inr rfl, Or.inl rfl, trivial⟩
      · refine kw_iincL (L2 := fun x30 => [some (.ref t), some (.int a0), some (.int a1), some (.int x30), none]) C d_Md_putCopy_21 (by decide) rfl (fun _ => rfl) (fun x30 => ?_)
        refine kw_goto (tgt := 4) C d_Md_putCopy_24 (by decide) ?_
        exact kw_wk (hk1 x30 σ29) ⟨Or.inr rfl, Or.inr rfl, Or.inr rfl, Or.inr rfl, Or.inl rfl, trivial⟩
/-! Md_writeShort -/
def rm_Md_writeShort : Room := { frames := 5, cells := 0, slots := 0, locals := 110 }
def F_Md_writeShort (n : Nat) (t : Nat) (σ : Mm) : Option (Mm) :=
kf_let (pS σ (64 * t + 55) 0) fun σ1 =>
kf_let (pS σ1 (64 * t + 56) 0) fun σ2 =>
Option.bind (F_Md_putBits n t 3 3 σ2) fun σ3 =>
kf_l (α := Int32) n (fun k4 x5 σ6 =>
if (gS σ6 (64 * t + 39)) ≤ x5 then (
Option.bind (F_Md_putSign n t 256 σ6) fun σ7 =>
kf_l (α := Unit) n (fun k8 x9 σ10 =>
if (gS σ10 (64 * t + 56)) ≤ 0 then (
some σ10) else (
Option.bind (F_Md_putBit n t 0 σ10) fun σ11 =>
k8 () σ11)) () σ7) else (
kf_l (α := Int32 × Int32 × Int32) n (fun k12 x13 σ14 =>
kf_j (α := Unit) (fun x16 σ17 =>
kf_j (α := Int32) (fun x19 σ20 =>
k4 x19 σ20) fun k18 =>
if 3 ≤ x13.1 then (
Option.bind (F_Md_putCopy n t x13.1 x13.2.1 σ17) fun σ21 =>
kf_let (x5 + x13.1 : Int32) fun x22 =>
k18 x22 σ21) else (
Option.bind (gR σ17 (64 * t + 30)) fun o23 =>
kf_in x5 (mm_kd o23).2.2 <|
Option.bind (F_Md_putSign n t ((gB σ17 o23 x5.toNatClampNeg) &&& 255) σ17) fun σ24 =>
kf_let (x5 + Int32.ofInt 1) fun x25 =>
k18 x25 σ24)) fun k15 =>
if x5 < x13.2.2 then (
k15 () σ14) else (
if 32768 < x13.2.2 then (
k15 () σ14) else (
if 258 ≤ x13.1 then (
k15 () σ14) else (
kf_l (α := Int32) n (fun k26 x27 σ28 =>
kf_j (α := Unit) (fun x30 σ31 =>
kf_j (α := Int32) (fun x33 σ34 =>
kf_c2 (F_Md_max n x27 x13.1 σ34) fun x35 σ36 =>
kf_let (x13.2.2 + Int32.ofInt 1) fun x37 =>
k12 (x35, x33, x37) σ36) fun k32 =>
if x27 ≤ x13.1 then (
k32 x13.2.1 σ31) else (
k32 x13.2.2 σ31)) fun k29 =>
if 258 ≤ x27 then (
k29 () σ28) else (
if (gS σ28 (64 * t + 39)) ≤ (x5 + x27) then (
k29 () σ28) else (
Option.bind (gR σ28 (64 * t + 30)) fun o38 =>
kf_let (x5 + x27 : Int32) fun x39 =>
kf_in x39 (mm_kd o38).2.2 <|
Option.bind (gR σ28 (64 * t + 30)) fun o40 =>
kf_let ((x5 + x27) - x13.2.2 : Int32) fun x41 =>
kf_in x41 (mm_kd o40).2.2 <|
if (gB σ28 o38 x39.toNatClampNeg) = (gB σ28 o40 x41.toNatClampNeg) then (
kf_let (x27 + Int32.ofInt 1) fun x42 =>
k26 x42 σ28) else (
k29 () σ28)))) 0 σ14)))) (0, 0, 1) σ6)) 0 σ3
theorem d_Md_writeShort_0 : decode prog_14_method_92_code 0 = .ok (.aload_n 0, 1) := by decide +kernel
theorem d_Md_writeShort_1 : decode prog_14_method_92_code 1 = .ok (.iconst 0, 1) := by decide +kernel
theorem d_Md_writeShort_2 : decode prog_14_method_92_code 2 = .ok (.putfield 431, 3) := by decide +kernel
theorem d_Md_writeShort_5 : decode prog_14_method_92_code 5 = .ok (.aload_n 0, 1) := by decide +kernel
theorem d_Md_writeShort_6 : decode prog_14_method_92_code 6 = .ok (.iconst 0, 1) := by decide +kernel
theorem d_Md_writeShort_7 : decode prog_14_method_92_code 7 = .ok (.putfield 434, 3) := by decide +kernel
theorem d_Md_writeShort_10 : decode prog_14_method_92_code 10 = .ok (.aload_n 0, 1) := by decide +kernel
theorem d_Md_writeShort_11 : decode prog_14_method_92_code 11 = .ok (.iconst 3, 1) := by decide +kernel
theorem d_Md_writeShort_12 : decode prog_14_method_92_code 12 = .ok (.iconst 3, 1) := by decide +kernel
theorem d_Md_writeShort_13 : decode prog_14_method_92_code 13 = .ok (.invokevirtual 443, 3) := by decide +kernel
theorem d_Md_writeShort_16 : decode prog_14_method_92_code 16 = .ok (.iconst 0, 1) := by decide +kernel
theorem d_Md_writeShort_17 : decode prog_14_method_92_code 17 = .ok (.istore_n 1, 1) := by decide +kernel
theorem d_Md_writeShort_18 : decode prog_14_method_92_code 18 = .ok (.iload_n 1, 1) := by decide +kernel
theorem d_Md_writeShort_19 : decode prog_14_method_92_code 19 = .ok (.aload_n 0, 1) := by decide +kernel
theorem d_Md_writeShort_20 : decode prog_14_method_92_code 20 = .ok (.getfield 100, 3) := by decide +kernel
theorem d_Md_writeShort_23 : decode prog_14_method_92_code 23 = .ok (.if_icmp .ge 146, 3) := by decide +kernel
theorem d_Md_writeShort_26 : decode prog_14_method_92_code 26 = .ok (.iconst 0, 1) := by decide +kernel
theorem d_Md_writeShort_27 : decode prog_14_method_92_code 27 = .ok (.istore_n 2, 1) := by decide +kernel
theorem d_Md_writeShort_28 : decode prog_14_method_92_code 28 = .ok (.iconst 0, 1) := by decide +kernel
theorem d_Md_writeShort_29 : decode prog_14_method_92_code 29 = .ok (.istore_n 3, 1) := by decide +kernel
theorem d_Md_writeShort_30 : decode prog_14_method_92_code 30 = .ok (.iconst 1, 1) := by decide +kernel
theorem d_Md_writeShort_31 : decode prog_14_method_92_code 31 = .ok (.istore 4, 2) := by decide +kernel
theorem d_Md_writeShort_33 : decode prog_14_method_92_code 33 = .ok (.iload 4, 2) := by decide +kernel
theorem d_Md_writeShort_35 : decode prog_14_method_92_code 35 = .ok (.iload_n 1, 1) := by decide +kernel
theorem d_Md_writeShort_36 : decode prog_14_method_92_code 36 = .ok (.if_icmp .gt 95, 3) := by decide +kernel
theorem d_Md_writeShort_39 : decode prog_14_method_92_code 39 = .ok (.iload 4, 2) := by decide +kernel
theorem d_Md_writeShort_41 : decode prog_14_method_92_code 41 = .ok (.ldc 205, 2) := by decide +kernel
theorem d_Md_writeShort_43 : decode prog_14_method_92_code 43 = .ok (.if_icmp .gt 88, 3) := by decide +kernel
theorem d_Md_writeShort_46 : decode prog_14_method_92_code 46 = .ok (.iload_n 2, 1) := by decide +kernel
theorem d_Md_writeShort_47 : decode prog_14_method_92_code 47 = .ok (.sipush 258, 3) := by decide +kernel
theorem d_Md_writeShort_50 : decode prog_14_method_92_code 50 = .ok (.if_icmp .ge 81, 3) := by decide +kernel
theorem d_Md_writeShort_53 : decode prog_14_method_92_code 53 = .ok (.iconst 0, 1) := by decide +kernel
theorem d_Md_writeShort_54 : decode prog_14_method_92_code 54 = .ok (.istore 5, 2) := by decide +kernel
theorem d_Md_writeShort_56 : decode prog_14_method_92_code 56 = .ok (.iload 5, 2) := by decide +kernel
theorem d_Md_writeShort_58 : decode prog_14_method_92_code 58 = .ok (.sipush 258, 3) := by decide +kernel
theorem d_Md_writeShort_61 : decode prog_14_method_92_code 61 = .ok (.if_icmp .ge 44, 3) := by decide +kernel
theorem d_Md_writeShort_64 : decode prog_14_method_92_code 64 = .ok (.iload_n 1, 1) := by decide +kernel
theorem d_Md_writeShort_65 : decode prog_14_method_92_code 65 = .ok (.iload 5, 2) := by decide +kernel
theorem d_Md_writeShort_67 : decode prog_14_method_92_code 67 = .ok (.iadd, 1) := by decide +kernel
theorem d_Md_writeShort_68 : decode prog_14_method_92_code 68 = .ok (.aload_n 0, 1) := by decide +kernel
theorem d_Md_writeShort_69 : decode prog_14_method_92_code 69 = .ok (.getfield 100, 3) := by decide +kernel
theorem d_Md_writeShort_72 : decode prog_14_method_92_code 72 = .ok (.if_icmp .ge 33, 3) := by decide +kernel
theorem d_Md_writeShort_75 : decode prog_14_method_92_code 75 = .ok (.aload_n 0, 1) := by decide +kernel
theorem d_Md_writeShort_76 : decode prog_14_method_92_code 76 = .ok (.getfield 40, 3) := by decide +kernel
theorem d_Md_writeShort_79 : decode prog_14_method_92_code 79 = .ok (.iload_n 1, 1) := by decide +kernel
theorem d_Md_writeShort_80 : decode prog_14_method_92_code 80 = .ok (.iload 5, 2) := by decide +kernel
theorem d_Md_writeShort_82 : decode prog_14_method_92_code 82 = .ok (.iadd, 1) := by decide +kernel
theorem d_Md_writeShort_83 : decode prog_14_method_92_code 83 = .ok (.baload, 1) := by decide +kernel
theorem d_Md_writeShort_84 : decode prog_14_method_92_code 84 = .ok (.aload_n 0, 1) := by decide +kernel
theorem d_Md_writeShort_85 : decode prog_14_method_92_code 85 = .ok (.getfield 40, 3) := by decide +kernel
theorem d_Md_writeShort_88 : decode prog_14_method_92_code 88 = .ok (.iload_n 1, 1) := by decide +kernel
theorem d_Md_writeShort_89 : decode prog_14_method_92_code 89 = .ok (.iload 5, 2) := by decide +kernel
theorem d_Md_writeShort_91 : decode prog_14_method_92_code 91 = .ok (.iadd, 1) := by decide +kernel
theorem d_Md_writeShort_92 : decode prog_14_method_92_code 92 = .ok (.iload 4, 2) := by decide +kernel
theorem d_Md_writeShort_94 : decode prog_14_method_92_code 94 = .ok (.isub, 1) := by decide +kernel
theorem d_Md_writeShort_95 : decode prog_14_method_92_code 95 = .ok (.baload, 1) := by decide +kernel
theorem d_Md_writeShort_96 : decode prog_14_method_92_code 96 = .ok (.if_icmp .ne 9, 3) := by decide +kernel
theorem d_Md_writeShort_99 : decode prog_14_method_92_code 99 = .ok (.iinc 5 1, 3) := by decide +kernel
theorem d_Md_writeShort_102 : decode prog_14_method_92_code 102 = .ok (.goto (-46), 3) := by decide +kernel
theorem d_Md_writeShort_105 : decode prog_14_method_92_code 105 = .ok (.iload 5, 2) := by decide +kernel
theorem d_Md_writeShort_107 : decode prog_14_method_92_code 107 = .ok (.iload_n 2, 1) := by decide +kernel
theorem d_Md_writeShort_108 : decode prog_14_method_92_code 108 = .ok (.if_icmp .le 8, 3) := by decide +kernel
theorem d_Md_writeShort_111 : decode prog_14_method_92_code 111 = .ok (.iload 4, 2) := by decide +kernel
theorem d_Md_writeShort_113 : decode prog_14_method_92_code 113 = .ok (.goto 4, 3) := by decide +kernel
theorem d_Md_writeShort_116 : decode prog_14_method_92_code 116 = .ok (.iload_n 3, 1) := by decide +kernel
theorem d_Md_writeShort_117 : decode prog_14_method_92_code 117 = .ok (.istore_n 3, 1) := by decide +kernel
theorem d_Md_writeShort_118 : decode prog_14_method_92_code 118 = .ok (.iload 5, 2) := by decide +kernel
theorem d_Md_writeShort_120 : decode prog_14_method_92_code 120 = .ok (.iload_n 2, 1) := by decide +kernel
theorem d_Md_writeShort_121 : decode prog_14_method_92_code 121 = .ok (.invokestatic 212, 3) := by decide +kernel
theorem d_Md_writeShort_124 : decode prog_14_method_92_code 124 = .ok (.istore_n 2, 1) := by decide +kernel
theorem d_Md_writeShort_125 : decode prog_14_method_92_code 125 = .ok (.iinc 4 1, 3) := by decide +kernel
theorem d_Md_writeShort_128 : decode prog_14_method_92_code 128 = .ok (.goto (-95), 3) := by decide +kernel
theorem d_Md_writeShort_131 : decode prog_14_method_92_code 131 = .ok (.iload_n 2, 1) := by decide +kernel
theorem d_Md_writeShort_132 : decode prog_14_method_92_code 132 = .ok (.iconst 3, 1) := by decide +kernel
theorem d_Md_writeShort_133 : decode prog_14_method_92_code 133 = .ok (.if_icmp .ge 23, 3) := by decide +kernel
theorem d_Md_writeShort_136 : decode prog_14_method_92_code 136 = .ok (.aload_n 0, 1) := by decide +kernel
theorem d_Md_writeShort_137 : decode prog_14_method_92_code 137 = .ok (.aload_n 0, 1) := by decide +kernel
theorem d_Md_writeShort_138 : decode prog_14_method_92_code 138 = .ok (.getfield 40, 3) := by decide +kernel
theorem d_Md_writeShort_141 : decode prog_14_method_92_code 141 = .ok (.iload_n 1, 1) := by decide +kernel
theorem d_Md_writeShort_142 : decode prog_14_method_92_code 142 = .ok (.baload, 1) := by decide +kernel
theorem d_Md_writeShort_143 : decode prog_14_method_92_code 143 = .ok (.sipush 255, 3) := by decide +kernel
theorem d_Md_writeShort_146 : decode prog_14_method_92_code 146 = .ok (.iand, 1) := by decide +kernel
theorem d_Md_writeShort_147 : decode prog_14_method_92_code 147 = .ok (.invokevirtual 446, 3) := by decide +kernel
theorem d_Md_writeShort_150 : decode prog_14_method_92_code 150 = .ok (.iinc 1 1, 3) := by decide +kernel
theorem d_Md_writeShort_153 : decode prog_14_method_92_code 153 = .ok (.goto 13, 3) := by decide +kernel
theorem d_Md_writeShort_156 : decode prog_14_method_92_code 156 = .ok (.aload_n 0, 1) := by decide +kernel
theorem d_Md_writeShort_157 : decode prog_14_method_92_code 157 = .ok (.iload_n 2, 1) := by decide +kernel
theorem d_Md_writeShort_158 : decode prog_14_method_92_code 158 = .ok (.iload_n 3, 1) := by decide +kernel
theorem d_Md_writeShort_159 : decode prog_14_method_92_code 159 = .ok (.invokevirtual 449, 3) := by decide +kernel
theorem d_Md_writeShort_162 : decode prog_14_method_92_code 162 = .ok (.iload_n 1, 1) := by decide +kernel
theorem d_Md_writeShort_163 : decode prog_14_method_92_code 163 = .ok (.iload_n 2, 1) := by decide +kernel
theorem d_Md_writeShort_164 : decode prog_14_method_92_code 164 = .ok (.iadd, 1) := by decide +kernel
theorem d_Md_writeShort_165 : decode prog_14_method_92_code 165 = .ok (.istore_n 1, 1) := by decide +kernel
theorem d_Md_writeShort_166 : decode prog_14_method_92_code 166 = .ok (.goto (-148), 3) := by decide +kernel
theorem d_Md_writeShort_169 : decode prog_14_method_92_code 169 = .ok (.aload_n 0, 1) := by decide +kernel
theorem d_Md_writeShort_170 : decode prog_14_method_92_code 170 = .ok (.sipush 256, 3) := by decide +kernel
theorem d_Md_writeShort_173 : decode prog_14_method_92_code 173 = .ok (.invokevirtual 446, 3) := by decide +kernel
theorem d_Md_writeShort_176 : decode prog_14_method_92_code 176 = .ok (.aload_n 0, 1) := by decide +kernel
theorem d_Md_writeShort_177 : decode prog_14_method_92_code 177 = .ok (.getfield 434, 3) := by decide +kernel
theorem d_Md_writeShort_180 : decode prog_14_method_92_code 180 = .ok (.ifCond .le 11, 3) := by decide +kernel
theorem d_Md_writeShort_183 : decode prog_14_method_92_code 183 = .ok (.aload_n 0, 1) := by decide +kernel
theorem d_Md_writeShort_184 : decode prog_14_method_92_code 184 = .ok (.iconst 0, 1) := by decide +kernel
theorem d_Md_writeShort_185 : decode prog_14_method_92_code 185 = .ok (.invokevirtual 437, 3) := by decide +kernel
theorem d_Md_writeShort_188 : decode prog_14_method_92_code 188 = .ok (.goto (-12), 3) := by decide +kernel
theorem d_Md_writeShort_191 : decode prog_14_method_92_code 191 = .ok (.return_, 1) := by decide +kernel
set_option maxRecDepth 100000 in
set_option maxHeartbeats 4000000 in
theorem c_Md_writeShort {l0 : Launch} (hl : l0.stackTraces = false) (n : Nat) (ids : List Nat) {t : Nat} (ht : mm_ok ids t 1 12)  (σ : Mm) : kw_C l0 y_Md_writeShort (Cond.code y_Md_writeShort prog_14_method_92_code 6 none :: kw_Ts) rm_Md_writeShort kw_ov ids [] [.ref t] σ (F_Md_writeShort n t σ) := by
  refine kw_start (L0 := [some (.ref t), none, none, none, none, none]) hl (by decide +kernel) (Nat.le_of_ble_eq_true rfl) rfl (fun Γ ad C Ce => ?_)
  unfold F_Md_writeShort
  refine kw_aload_n C d_Md_writeShort_0 rfl ?_
  refine kw_iconst (v := 0) C d_Md_writeShort_1 (by decide) ?_
  refine kw_putI C fi_Md_431 rfl ht d_Md_writeShort_2 (fun σ1 => ?_)
  refine kw_aload_n C d_Md_writeShort_5 rfl ?_
  refine kw_iconst (v := 0) C d_Md_writeShort_6 (by decide) ?_
  refine kw_putI C fi_Md_434 rfl ht d_Md_writeShort_7 (fun σ2 => ?_)
  refine kw_aload_n C d_Md_writeShort_10 rfl ?_
  refine kw_iconst (v := 3) C d_Md_writeShort_11 (by decide) ?_
  refine kw_iconst (v := 3) C d_Md_writeShort_12 (by decide) ?_
  refine kw_callVv (cl' := 0) (sl' := 0) (As := [.int 3, .int 3]) C (c_Md_putBits hl n ids ht 3 3 σ2) mi_Md_443 v_Md_putBits ⟨_, _, rfl⟩ ht ⟨Nat.le_of_ble_eq_true rfl, Nat.le_of_ble_eq_true rfl⟩ (Nat.le_of_ble_eq_true rfl) ⟨Nat.le_of_ble_eq_true rfl, Nat.le_of_ble_eq_true rfl⟩ ⟨rfl, rfl⟩ rfl d_Md_writeShort_13 (fun σ3 => ?_)
  refine kw_iconst (v := 0) C d_Md_writeShort_16 (by decide) ?_
  refine kw_istore_n (L' := [some (.ref t), some (.int 0), none, none, none, none]) C d_Md_writeShort_17 (by decide) rfl ?_
  refine kw_wk (kw_l (α := Int32) (pc := 18) (Lj := fun x5 => [some (.ref t), some (.int x5), none, none, none, none]) (stj := fun x5 => []) (fun k4 hk4 x5 σ6 => ?_) n 0 σ3) ⟨Or.inr rfl, Or.inr rfl, Or.inl rfl, Or.inl rfl, Or.inl rfl, Or.inl rfl, trivial⟩
  refine kw_iload_n C d_Md_writeShort_18 rfl ?_
  refine kw_aload_n C d_Md_writeShort_19 rfl ?_
  refine kw_getI C fi_Md_100 (Or.inl rfl) ht d_Md_writeShort_20 ?_
  refine kw_icmp_ge (tgt := 169) C d_Md_writeShort_23 (by decide) ?_ ?_
  · refine kw_aload_n C d_Md_writeShort_169 rfl ?_
    refine kw_sipush (v := 256) C d_Md_writeShort_170 (by decide) ?_
    refine kw_callVv (cl' := 0) (sl' := 0) (As := [.int 256]) C (c_Md_putSign hl n ids ht 256 σ6) mi_Md_446 v_Md_putSign ⟨_, _, rfl⟩ ht ⟨Nat.le_of_ble_eq_true rfl, Nat.le_of_ble_eq_true rfl⟩ (Nat.le_of_ble_eq_true rfl) ⟨Nat.le_of_ble_eq_true rfl, Nat.le_of_ble_eq_true rfl⟩ ⟨rfl, rfl⟩ rfl d_Md_writeShort_173 (fun σ7 => ?_)
    refine kw_wk (kw_l (α := Unit) (pc := 176) (Lj := fun x9 => [some (.ref t), none, none, none, none, none]) (stj := fun x9 => []) (fun k8 hk8 x9 σ10 => ?_) n () σ7) ⟨Or.inr rfl, Or.inl rfl, Or.inl rfl, Or.inl rfl, Or.inl rfl, Or.inl rfl, trivial⟩
    refine kw_aload_n C d_Md_writeShort_176 rfl ?_
    refine kw_getI C fi_Md_434 (Or.inl rfl) ht d_Md_writeShort_177 ?_
    refine kw_if_le (tgt := 191) C d_Md_writeShort_180 (by decide) ?_ ?_
    · exact kw_vret C Ce rfl (by simp) (fun _ _ => rfl) (Nat.le_of_ble_eq_true rfl) (Nat.le_of_ble_eq_true rfl) rfl d_Md_writeShort_191
    · refine kw_aload_n C d_Md_writeShort_183 rfl ?_
      refine kw_iconst (v := 0) C d_Md_writeShort_184 (by decide) ?_
      refine kw_callVv (cl' := 0) (sl' := 0) (As := [.int 0]) C (c_Md_putBit hl n ids ht 0 σ10) mi_Md_437 v_Md_putBit ⟨_, _, rfl⟩ ht ⟨Nat.le_of_ble_eq_true rfl, Nat.le_of_ble_eq_true rfl⟩ (Nat.le_of_ble_eq_true rfl) ⟨Nat.le_of_ble_eq_true rfl, Nat.le_of_ble_eq_true rfl⟩ ⟨rfl, rfl⟩ rfl d_Md_writeShort_185 (fun σ11 => ?_)
      refine kw_goto (tgt := 176) C d_Md_writeShort_188 (by decide) ?_
      exact kw_wk (hk8 () σ11) ⟨Or.inr rfl, Or.inl rfl, Or.inl rfl, Or.inl rfl, Or.inl rfl, Or.inl rfl, trivial⟩
  · refine kw_iconst (v := 0) C d_Md_writeShort_26 (by decide) ?_
    refine kw_istore_n (L' := [some (.ref t), some (.int x5), some (.int 0), none, none, none]) C d_Md_writeShort_27 (by decide) rfl ?_
    refine kw_iconst (v := 0) C d_Md_writeShort_28 (by decide) ?_
    refine kw_istore_n (L' := [some (.ref t), some (.int x5), some (.int 0), some (.int 0), none, none]) C d_Md_writeShort_29 (by decide) rfl ?_
    refine kw_iconst (v := 1) C d_Md_writeShort_30 (by decide) ?_
    refine kw_istore (L' := [some (.ref t), some (.int x5), some (.int 0), some (.int 0), some (.int 1), none]) C d_Md_writeShort_31 (by decide) rfl ?_
    refine kw_wk (kw_l (α := Int32 × Int32 × Int32) (pc := 33) (Lj := fun x13 => [some (.ref t), some (.int x5), some (.int x13.1), some (.int x13.2.1), some (.int x13.2.2), none]) (stj := fun x13 => []) (fun k12 hk12 x13 σ14 => ?_) n (0, 0, 1) σ6) ⟨Or.inr rfl, Or.inr rfl, Or.inr rfl, Or.inr rfl, Or.inr rfl, Or.inl rfl, trivial⟩
    refine kw_iload C d_Md_writeShort_33 rfl ?_
    refine kw_iload_n C d_Md_writeShort_35 rfl ?_
    refine kw_j (α := Unit) (pcj := 131) (Lj := fun x16 => [some (.ref t), some (.int x5), some (.int x13.1), some (.int x13.2.1), none, none]) (stj := fun x16 => []) (fun x16 σ17 => ?_) (fun k15 hk15 => ?_)
    · refine kw_iload_n C d_Md_writeShort_131 rfl ?_
      refine kw_iconst (v := 3) C d_Md_writeShort_132 (by decide) ?_
      refine kw_j (α := Int32) (pcj := 166) (Lj := fun x19 => [some (.ref t), some (.int x19), none, none, none, none]) (stj := fun x19 => []) (fun x19 σ20 => ?_) (fun k18 hk18 => ?_)
      · refine kw_goto (tgt := 18) C d_Md_writeShort_166 (by decide) ?_
        exact kw_wk (hk4 x19 σ20) ⟨Or.inr rfl, Or.inr rfl, Or.inl rfl, Or.inl rfl, Or.inl rfl, Or.inl rfl, trivial⟩
      · refine kw_icmp_ge (tgt := 156) C d_Md_writeShort_133 (by decide) ?_ ?_
        · refine kw_aload_n C d_Md_writeShort_156 rfl ?_
          refine kw_iload_n C d_Md_writeShort_157 rfl ?_
          refine kw_iload_n C d_Md_writeShort_158 rfl ?_
          refine kw_callVv (cl' := 0) (sl' := 0) (As := [.int x13.1, .int x13.2.1]) C (c_Md_putCopy hl n ids ht x13.1 x13.2.1 σ17) mi_Md_449 v_Md_putCopy ⟨_, _, rfl⟩ ht ⟨Nat.le_of_ble_eq_true rfl, Nat.le_of_ble_eq_true rfl⟩ (Nat.le_of_ble_eq_true rfl) ⟨Nat.le_of_ble_eq_true rfl, Nat.le_of_ble_eq_true rfl⟩ ⟨rfl, rfl⟩ rfl d_Md_writeShort_159 (fun σ21 => ?_)
          refine kw_iload_n C d_Md_writeShort_162 rfl ?_
          refine kw_iload_n C d_Md_writeShort_163 rfl ?_
          refine kw_iadd C d_Md_writeShort_164 ?_
          refine kw_leti (fun x22 => ?_)
          refine kw_istore_n (L' := [some (.ref t), some (.int x22), some (.int x13.1), some (.int x13.2.1), none, none]) C d_Md_writeShort_165 (by decide) rfl ?_
          exact kw_wk (hk18 x22 σ21) ⟨Or.inr rfl, Or.inr rfl, Or.inl rfl, Or.inl rfl, Or.inl rfl, Or.inl rfl, trivial⟩
        · refine kw_aload_n C d_Md_writeShort_136 rfl ?_
          refine kw_aload_n C d_Md_writeShort_137 rfl ?_
          refine kw_getR C fi_Md_40 rfl rfl ht d_Md_writeShort_138 (fun o23 ho23 => ?_)
          refine kw_iload_n C d_Md_writeShort_141 rfl ?_
          refine kw_bald C ho23 d_Md_writeShort_142 ?_
          refine kw_sipush (v := 255) C d_Md_writeShort_143 (by decide) ?_
          refine kw_iand C d_Md_writeShort_146 ?_
          refine kw_callVv (cl' := 0) (sl' := 0) (As := [.int ((gB σ17 o23 x5.toNatClampNeg) &&& 255)]) C (c_Md_putSign hl n ids ht ((gB σ17 o23 x5.toNatClampNeg) &&& 255) σ17) mi_Md_446 v_Md_putSign ⟨_, _, rfl⟩ ht ⟨Nat.le_of_ble_eq_true rfl, Nat.le_of_ble_eq_true rfl⟩ (Nat.le_of_ble_eq_true rfl) ⟨Nat.le_of_ble_eq_true rfl, Nat.le_of_ble_eq_true rfl⟩ ⟨rfl, rfl⟩ rfl d_Md_writeShort_147 (fun σ24 => ?_)
          refine kw_iincL (L2 := fun x25 => [some (.ref t), some (.int x25), some (.int x13.1), some (.int x13.2.1), none, none]) C d_Md_writeShort_150 (by decide) rfl (fun _ => rfl) (fun x25 => ?_)
          refine kw_goto (tgt := 166) C d_Md_writeShort_153 (by decide) ?_
          exact kw_wk (hk18 x25 σ24) ⟨Or.inr rfl, Or.inr rfl, Or.inl rfl, Or.inl rfl, Or.inl rfl, Or.inl rfl, trivial⟩
    · refine kw_icmp_gt (tgt := 131) C d_Md_writeShort_36 (by decide) ?_ ?_
      · exact kw_wk (hk15 () σ14) ⟨Or.inr rfl, Or.inr rfl, Or.inr rfl, Or.inr rfl, Or.inl rfl, Or.inl rfl, trivial⟩
      · refine kw_iload C d_Md_writeShort_39 rfl ?_
        refine kw_ldc (v := 32768) C d_Md_writeShort_41 k_Md_205 ?_
        refine kw_icmp_gt (tgt := 131) C d_Md_writeShort_43 (by decide) ?_ ?_
        · exact kw_wk (hk15 () σ14) ⟨Or.inr rfl, Or.inr rfl, Or.inr rfl, Or.inr rfl, Or.inl rfl, Or.inl rfl, trivial⟩
        · refine kw_iload_n C d_Md_writeShort_46 rfl ?_
          refine kw_sipush (v := 258) C d_Md_writeShort_47 (by decide) ?_
          refine kw_icmp_ge (tgt := 131) C d_Md_writeShort_50 (by decide) ?_ ?_
          · exact kw_wk (hk15 () σ14) ⟨Or.inr rfl, Or.inr rfl, Or.inr rfl, Or.inr rfl, Or.inl rfl, Or.inl rfl, trivial⟩
          · refine kw_iconst (v := 0) C d_Md_writeShort_53 (by decide) ?_
            refine kw_istore (L' := [some (.ref t), some (.int x5), some (.int x13.1), some (.int x13.2.1), some (.int x13.2.2), some (.int 0)]) C d_Md_writeShort_54 (by decide) rfl ?_
            refine kw_wk (kw_l (α := Int32) (pc := 56) (Lj := fun x27 => [some (.ref t), some (.int x5), some (.int x13.1), some (.int x13.2.1), some (.int x13.2.2), some (.int x27)]) (stj := fun x27 => []) (fun k26 hk26 x27 σ28 => ?_) n 0 σ14) ⟨Or.inr rfl, Or.inr rfl, Or.inr rfl, Or.inr rfl, Or.inr rfl, Or.inr rfl, trivial⟩
            refine kw_iload C d_Md_writeShort_56 rfl ?_
            refine kw_sipush (v := 258) C d_Md_writeShort_58 (by decide) ?_
            refine kw_j (α := Unit) (pcj := 105) (Lj := fun x30 => [some (.ref t), some (.int x5), some (.int x13.1), some (.int x13.2.1), some (.int x13.2.2), some (.int x27)]) (stj := fun x30 => []) (fun x30 σ31 => ?_) (fun k29 hk29 => ?_)
            · refine kw_iload C d_Md_writeShort_105 rfl ?_
              refine kw_iload_n C d_Md_writeShort_107 rfl ?_
              refine kw_j (α := Int32) (pcj := 117) (Lj := fun x33 => [some (.ref t), some (.int x5), some (.int x13.1), none, some (.int x13.2.2), some (.int x27)]) (stj := fun x33 => [.int x33]) (fun x33 σ34 => ?_) (fun k32 hk32 => ?_)
              · refine kw_istore_n (L' := [some (.ref t), some (.int x5), some (.int x13.1), some (.int x33), some (.int x13.2.2), some (.int x27)]) C d_Md_writeShort_117 (by decide) rfl ?_
                refine kw_iload C d_Md_writeShort_118 rfl ?_
                refine kw_iload_n C d_Md_writeShort_120 rfl ?_
                refine kw_callSi (cl' := 0) (sl' := 0) (As := [.int x27, .int x13.1]) C (c_Md_max hl n ids  x27 x13.1 σ34) mi_Md_212 s_Md_max ⟨Nat.le_of_ble_eq_true rfl, Nat.le_of_ble_eq_true rfl⟩ (Nat.le_of_ble_eq_true rfl) ⟨Nat.le_of_ble_eq_true rfl, Nat.le_of_ble_eq_true rfl⟩ ⟨rfl, rfl⟩ rfl d_Md_writeShort_121 (fun x35 σ36 => ?_)
                refine kw_istore_n (L' := [some (.ref t), some (.int x5), some (.int x35), some (.int x33), some (.int x13.2.2), some (.int x27)]) C d_Md_writeShort_124 (by decide) rfl ?_
                refine kw_iincL (L2 := fun x37 => [some (.ref t), some (.int x5), some (.int x35), some (.int x33), some (.int x37), some (.int x27)]) C d_Md_writeShort_125 (by decide) rfl (fun _ => rfl) (fun x37 => ?_)
                refine kw_goto (tgt := 33) C d_Md_writeShort_128 (by decide) ?_
                exact kw_wk (hk12 (x35, x33, x37) σ36) ⟨Or.inr rfl, Or.inr rfl, Or.inr rfl, Or.inr rfl, Or.inr rfl, Or.inl rfl, trivial⟩
              · refine kw_icmp_le (tgt := 116) C d_Md_writeShort_108 (by decide) ?_ ?_
                · refine kw_iload_n C d_Md_writeShort_116 rfl ?_
                  exact kw_wk (hk32 x13.2.1 σ31) ⟨Or.inr rfl, Or.inr rfl, Or.inr rfl, Or.inl rfl, Or.inr rfl, Or.inr rfl, trivial⟩
                · refine kw_iload C d_Md_writeShort_111 rfl ?_
                  refine kw_goto (tgt := 117) C d_Md_writeShort_113 (by decide) ?_
                  exact kw_wk (hk32 x13.2.2 σ31) ⟨Or.inr rfl, Or.inr rfl, Or.inr rfl, Or.inl rfl, Or.inr rfl, Or.inr rfl, trivial⟩
            · refine kw_icmp_ge (tgt := 105) C d_Md_writeShort_61 (by decide) ?_ ?_
              · exact kw_wk (hk29 () σ28) ⟨Or.inr rfl, Or.inr rfl, Or.inr rfl, Or.inr rfl, Or.inr rfl, Or.inr rfl, trivial⟩
              · refine kw_iload_n C d_Md_writeShort_64 rfl ?_
                refine kw_iload C d_Md_writeShort_65 rfl ?_
                refine kw_iadd C d_Md_writeShort_67 ?_
                refine kw_aload_n C d_Md_writeShort_68 rfl ?_
                refine kw_getI C fi_Md_100 (Or.inl rfl) ht d_Md_writeShort_69 ?_
                refine kw_icmp_ge (tgt := 105) C d_Md_writeShort_72 (by decide) ?_ ?_
                · exact kw_wk (hk29 () σ28) ⟨Or.inr rfl, Or.inr rfl, Or.inr rfl, Or.inr rfl, Or.inr rfl, Or.inr rfl, trivial⟩
                · refine kw_aload_n C d_Md_writeShort_75 rfl ?_
                  refine kw_getR C fi_Md_40 rfl rfl ht d_Md_writeShort_76 (fun o38 ho38 => ?_)
                  refine kw_iload_n C d_Md_writeShort_79 rfl ?_
                  refine kw_iload C d_Md_writeShort_80 rfl ?_
                  refine kw_iadd C d_Md_writeShort_82 ?_
                  refine kw_leti (fun x39 => ?_)
                  refine kw_bald C ho38 d_Md_writeShort_83 ?_
                  refine kw_aload_n C d_Md_writeShort_84 rfl ?_
                  refine kw_getR C fi_Md_40 rfl rfl ht d_Md_writeShort_85 (fun o40 ho40 => ?_)
                  refine kw_iload_n C d_Md_writeShort_88 rfl ?_
                  refine kw_iload C d_Md_writeShort_89 rfl ?_
                  refine kw_iadd C d_Md_writeShort_91 ?_
                  refine kw_iload C d_Md_writeShort_92 rfl ?_
                  refine kw_isub C d_Md_writeShort_94 ?_
                  refine kw_leti (fun x41 => ?_)
                  refine kw_bald C ho40 d_Md_writeShort_95 ?_
                  refine kw_icmp_ne (tgt := 105) C d_Md_writeShort_96 (by decide) ?_ ?_
                  · exact kw_wk (hk29 () σ28) ⟨Or.inr rfl, Or.inr rfl, Or.inr rfl, Or.inr rfl, Or.inr rfl, Or.inr rfl, trivial⟩
                  · refine kw_iincL (L2 := fun x42 => [some (.ref t), some (.int x5), some (.int x13.1), some (.int x13.2.1), some (.int x13.2.2), some (.int x42)]) C d_Md_writeShort_99 (by decide) rfl (fun _ => rfl) (fun x42 => ?_)
                    refine kw_goto (tgt := 56) C d_Md_writeShort_102 (by decide) ?_
                    exact kw_wk (hk26 x42 σ28) ⟨Or.inr rfl, Or.inr rfl, Or.inr rfl, Or.inr rfl, Or.inr rfl, Or.inr rfl, trivial⟩
