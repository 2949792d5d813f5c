def y_Md_bits : MethodName := ⟨"PictureFileModel", "bits", "(I)I"⟩
theorem w_Md_bits : Cond.code y_Md_bits prog_14_method_35_code 4 (some .int) ∈ kw_Ts := (kw_m6 (i := 198) (by decide +kernel) (by decide +kernel))
theorem fi_Md_58 : kw_fi "PictureFileModel" 58 12 45 true := ⟨mmR_12, mmT_12, 57, rfl, rfl, by decide, mmI_12, mmY_12, mmN_12, rfl, (kw_m5 (i := 188) (by decide +kernel) (by decide +kernel))⟩
def y_Md_many : MethodName := ⟨"PictureFileModel", "many", "(III)I"⟩
theorem w_Md_many : Cond.code y_Md_many prog_14_method_36_code 6 (some .int) ∈ kw_Ts := (kw_m6 (i := 232) (by decide +kernel) (by decide +kernel))
theorem k_Md_205 : Cond.constant "PictureFileModel" 205 32768 ∈ kw_Ts := (kw_m6 (i := 228) (by decide +kernel) (by decide +kernel))
theorem mi_Md_206 : kw_mi "PictureFileModel" 206 y_Md_many prog_14_method_36_code 6 (some .int) 3 := ⟨(kw_m6 (i := 229) (by decide +kernel) (by decide +kernel)), w_Md_many, in_Md, by decide +kernel, by decide +kernel, by decide +kernel⟩
theorem v_Md_many : Cond.instanceMethod y_Md_many ∈ kw_Ts ∧ Cond.selects y_Md_many.cls y_Md_many y_Md_many ∈ kw_Ts := ⟨(kw_m6 (i := 231) (by decide +kernel) (by decide +kernel)), (kw_sel (i := 65) (by decide +kernel) (by decide +kernel))⟩
def y_Md_left : MethodName := ⟨"PictureFileModel", "left", "(II)I"⟩
theorem w_Md_left : Cond.code y_Md_left prog_14_method_37_code 5 (some .int) ∈ kw_Ts := (kw_m6 (i := 227) (by decide +kernel) (by decide +kernel))
theorem fi_Md_209 : kw_fi "PictureFileModel" 209 12 51 false := ⟨mmR_12, mmT_12, 57, rfl, rfl, by decide, mmI_12, mmY_12, mmN_12, rfl, (kw_m5 (i := 194) (by decide +kernel) (by decide +kernel))⟩
theorem fi_Md_64 : kw_fi "PictureFileModel" 64 12 50 true := ⟨mmR_12, mmT_12, 57, rfl, rfl, by decide, mmI_12, mmY_12, mmN_12, rfl, (kw_m5 (i := 193) (by decide +kernel) (by decide +kernel))⟩
theorem mi_Md_212 : kw_mi "PictureFileModel" 212 y_Md_max prog_14_method_2_code 2 (some .int) 2 := ⟨(kw_m7 (i := 9) (by decide +kernel) (by decide +kernel)), w_Md_max, in_Md, by decide +kernel, by decide +kernel, by decide +kernel⟩
theorem s_Md_max : Cond.static y_Md_max ∈ kw_Ts := (kw_m7 (i := 10) (by decide +kernel) (by decide +kernel))
def y_Md_count : MethodName := ⟨"PictureFileModel", "count", "(II)V"⟩
theorem w_Md_count : Cond.code y_Md_count prog_14_method_38_code 4 none ∈ kw_Ts := (kw_m7 (i := 8) (by decide +kernel) (by decide +kernel))
def y_Md_isBegun : MethodName := ⟨"PictureFileModel", "isBegun", "(III)Z"⟩
theorem w_Md_isBegun : Cond.code y_Md_isBegun prog_14_method_40_code 9 (some .boolean) ∈ kw_Ts := (kw_m7 (i := 15) (by decide +kernel) (by decide +kernel))
theorem fi_Md_216 : kw_fi "PictureFileModel" 216 12 49 false := ⟨mmR_12, mmT_12, 57, rfl, rfl, by decide, mmI_12, mmY_12, mmN_12, rfl, (kw_m5 (i := 192) (by decide +kernel) (by decide +kernel))⟩
theorem mi_Md_219 : kw_mi "PictureFileModel" 219 y_Md_count prog_14_method_38_code 4 none 2 := ⟨(kw_m7 (i := 5) (by decide +kernel) (by decide +kernel)), w_Md_count, in_Md, by decide +kernel, by decide +kernel, by decide +kernel⟩
theorem v_Md_count : Cond.instanceMethod y_Md_count ∈ kw_Ts ∧ Cond.selects y_Md_count.cls y_Md_count y_Md_count ∈ kw_Ts := ⟨(kw_m7 (i := 7) (by decide +kernel) (by decide +kernel)), (kw_sel (i := 69) (by decide +kernel) (by decide +kernel))⟩
theorem mi_Md_223 : kw_mi "PictureFileModel" 223 y_Md_hasBits prog_14_method_34_code 2 (some .boolean) 1 := ⟨(kw_m6 (i := 190) (by decide +kernel) (by decide +kernel)), w_Md_hasBits, in_Md, by decide +kernel, by decide +kernel, by decide +kernel⟩
theorem v_Md_hasBits : Cond.instanceMethod y_Md_hasBits ∈ kw_Ts ∧ Cond.selects y_Md_hasBits.cls y_Md_hasBits y_Md_hasBits ∈ kw_Ts := ⟨(kw_m6 (i := 192) (by decide +kernel) (by decide +kernel)), (kw_sel (i := 57) (by decide +kernel) (by decide +kernel))⟩
theorem mi_Md_226 : kw_mi "PictureFileModel" 226 y_Md_bits prog_14_method_35_code 4 (some .int) 1 := ⟨(kw_m6 (i := 195) (by decide +kernel) (by decide +kernel)), w_Md_bits, in_Md, by decide +kernel, by decide +kernel, by decide +kernel⟩
theorem v_Md_bits : Cond.instanceMethod y_Md_bits ∈ kw_Ts ∧ Cond.selects y_Md_bits.cls y_Md_bits y_Md_bits ∈ kw_Ts := ⟨(kw_m6 (i := 197) (by decide +kernel) (by decide +kernel)), (kw_sel (i := 58) (by decide +kernel) (by decide +kernel))⟩
theorem mi_Md_229 : kw_mi "PictureFileModel" 229 y_Md_isBegun prog_14_method_40_code 9 (some .boolean) 3 := ⟨(kw_m7 (i := 12) (by decide +kernel) (by decide +kernel)), w_Md_isBegun, in_Md, by decide +kernel, by decide +kernel, by decide +kernel⟩
theorem v_Md_isBegun : Cond.instanceMethod y_Md_isBegun ∈ kw_Ts ∧ Cond.selects y_Md_isBegun.cls y_Md_isBegun y_Md_isBegun ∈ kw_Ts := ⟨(kw_m7 (i := 14) (by decide +kernel) (by decide +kernel)), (kw_sel (i := 70) (by decide +kernel) (by decide +kernel))⟩
def y_Md_readCode : MethodName := ⟨"PictureFileModel", "readCode", "(II)Z"⟩
theorem w_Md_readCode : Cond.code y_Md_readCode prog_14_method_39_code 9 (some .boolean) ∈ kw_Ts := (kw_m7 (i := 4) (by decide +kernel) (by decide +kernel))
theorem mi_Md_233 : kw_mi "PictureFileModel" 233 y_Md_readCode prog_14_method_39_code 9 (some .boolean) 2 := ⟨(kw_m7 (i := 1) (by decide +kernel) (by decide +kernel)), w_Md_readCode, in_Md, by decide +kernel, by decide +kernel, by decide +kernel⟩
theorem v_Md_readCode : Cond.instanceMethod y_Md_readCode ∈ kw_Ts ∧ Cond.selects y_Md_readCode.cls y_Md_readCode y_Md_readCode ∈ kw_Ts := ⟨(kw_m7 (i := 3) (by decide +kernel) (by decide +kernel)), (kw_sel (i := 68) (by decide +kernel) (by decide +kernel))⟩
theorem mi_Md_236 : kw_mi "PictureFileModel" 236 y_Md_placeOf prog_14_method_33_code 3 (some .int) 1 := ⟨(kw_m6 (i := 199) (by decide +kernel) (by decide +kernel)), w_Md_placeOf, in_Md, by decide +kernel, by decide +kernel, by decide +kernel⟩
theorem v_Md_placeOf : Cond.instanceMethod y_Md_placeOf ∈ kw_Ts ∧ Cond.selects y_Md_placeOf.cls y_Md_placeOf y_Md_placeOf ∈ kw_Ts := ⟨(kw_m6 (i := 201) (by decide +kernel) (by decide +kernel)), (kw_sel (i := 59) (by decide +kernel) (by decide +kernel))⟩
def y_Md_isCode : MethodName := ⟨"PictureFileModel", "isCode", "(II)Z"⟩
theorem w_Md_isCode : Cond.code y_Md_isCode prog_14_method_41_code 5 (some .boolean) ∈ kw_Ts := (kw_m7 (i := 0) (by decide +kernel) (by decide +kernel))
theorem k_Md_257 : Cond.constantLong "PictureFileModel" 257 7 ∈ kw_Ts := (kw_m6 (i := 211) (by decide +kernel) (by decide +kernel))
def y_Md_align : MethodName := ⟨"PictureFileModel", "align", "()V"⟩
theorem w_Md_align : Cond.code y_Md_align prog_14_method_43_code 1 none ∈ kw_Ts := (kw_m6 (i := 210) (by decide +kernel) (by decide +kernel))
theorem mi_Md_259 : kw_mi "PictureFileModel" 259 y_Md_align prog_14_method_43_code 1 none 0 := ⟨(kw_m6 (i := 207) (by decide +kernel) (by decide +kernel)), w_Md_align, in_Md, by decide +kernel, by decide +kernel, by decide +kernel⟩
theorem v_Md_align : Cond.instanceMethod y_Md_align ∈ kw_Ts ∧ Cond.selects y_Md_align.cls y_Md_align y_Md_align ∈ kw_Ts := ⟨(kw_m6 (i := 209) (by decide +kernel) (by decide +kernel)), (kw_sel (i := 61) (by decide +kernel) (by decide +kernel))⟩
theorem k_Md_274 : Cond.constant "PictureFileModel" 274 65535 ∈ kw_Ts := (kw_m6 (i := 212) (by decide +kernel) (by decide +kernel))
theorem fi_Md_240 : kw_fi "PictureFileModel" 240 12 31 false := ⟨mmR_12, mmT_12, 57, rfl, rfl, by decide, mmI_12, mmY_12, mmN_12, rfl, (kw_m5 (i := 174) (by decide +kernel) (by decide +kernel))⟩
theorem fi_Md_262 : kw_fi "PictureFileModel" 262 12 32 false := ⟨mmR_12, mmT_12, 57, rfl, rfl, by decide, mmI_12, mmY_12, mmN_12, rfl, (kw_m5 (i := 175) (by decide +kernel) (by decide +kernel))⟩
theorem fi_Md_40 : kw_fi "PictureFileModel" 40 12 30 true := ⟨mmR_12, mmT_12, 57, rfl, rfl, by decide, mmI_12, mmY_12, mmN_12, rfl, (kw_m5 (i := 173) (by decide +kernel) (by decide +kernel))⟩
def y_Md_readPlain : MethodName := ⟨"PictureFileModel", "readPlain", "()Z"⟩
theorem w_Md_readPlain : Cond.code y_Md_readPlain prog_14_method_46_code 4 (some .boolean) ∈ kw_Ts := (kw_m6 (i := 206) (by decide +kernel) (by decide +kernel))
def y_Md_orderOf : MethodName := ⟨"PictureFileModel", "orderOf", "(I)I"⟩
theorem w_Md_orderOf : Cond.code y_Md_orderOf prog_14_method_54_code 1 (some .int) ∈ kw_Ts := (kw_m6 (i := 223) (by decide +kernel) (by decide +kernel))
theorem fi_Md_278 : kw_fi "PictureFileModel" 278 12 47 false := ⟨mmR_12, mmT_12, 57, rfl, rfl, by decide, mmI_12, mmY_12, mmN_12, rfl, (kw_m5 (i := 190) (by decide +kernel) (by decide +kernel))⟩
theorem fi_Md_281 : kw_fi "PictureFileModel" 281 12 48 false := ⟨mmR_12, mmT_12, 57, rfl, rfl, by decide, mmI_12, mmY_12, mmN_12, rfl, (kw_m5 (i := 191) (by decide +kernel) (by decide +kernel))⟩
theorem mi_Md_284 : kw_mi "PictureFileModel" 284 y_Md_isCode prog_14_method_41_code 5 (some .boolean) 2 := ⟨(kw_m6 (i := 237) (by decide +kernel) (by decide +kernel)), w_Md_isCode, in_Md, by decide +kernel, by decide +kernel, by decide +kernel⟩
theorem v_Md_isCode : Cond.instanceMethod y_Md_isCode ∈ kw_Ts ∧ Cond.selects y_Md_isCode.cls y_Md_isCode y_Md_isCode ∈ kw_Ts := ⟨(kw_m6 (i := 239) (by decide +kernel) (by decide +kernel)), (kw_sel (i := 67) (by decide +kernel) (by decide +kernel))⟩
theorem fi_Md_61 : kw_fi "PictureFileModel" 61 12 46 true := ⟨mmR_12, mmT_12, 57, rfl, rfl, by decide, mmI_12, mmY_12, mmN_12, rfl, (kw_m5 (i := 189) (by decide +kernel) (by decide +kernel))⟩
def y_Md_readSteps : MethodName := ⟨"PictureFileModel", "readSteps", "()Z"⟩
theorem w_Md_readSteps : Cond.code y_Md_readSteps prog_14_method_56_code 9 (some .boolean) ∈ kw_Ts := (kw_m6 (i := 236) (by decide +kernel) (by decide +kernel))
/-! Md_bits -/
def rm_Md_bits : Room := { frames := 0, cells := 0, slots := 0, locals := 0 }
def F_Md_bits (n : Nat) (t : Nat) (a0 : Int32) (σ : Mm) : Option (Int32 × Mm) :=
kf_l (α := Int32 × Int32) n (fun k1 x2 σ3 =>
if a0 ≤ x2.2 then (
some (x2.1, σ3)) else (
Option.bind (gR σ3 (64 * t + 26)) fun o4 =>
kf_nzl 8 <|
kf_let (((gJ σ3 (64 * t + 43)) / 8).toInt32 : Int32) fun x5 =>
kf_in x5 (mm_kd o4).2.2 <|
kf_nzl 8 <|
kf_let (x2.1 ||| ((((gB σ3 o4 x5.toNatClampNeg) >>> ((((gJ σ3 (64 * t + 43)) - (gJ σ3 (64 * t + 43)) / 8 * 8).toInt32) &&& 31)) &&& 1) <<< (x2.2 &&& 31)) : Int32) fun x6 =>
kf_let (pJ σ3 (64 * t + 43) ((gJ σ3 (64 * t + 43)) + 1)) fun σ7 =>
kf_let (x2.2 + Int32.ofInt 1) fun x8 =>
k1 (x6, x8) σ7)) (0, 0) σ
theorem d_Md_bits_0 : decode prog_14_method_35_code 0 = .ok (.iconst 0, 1) := by decide +kernel
theorem d_Md_bits_1 : decode prog_14_method_35_code 1 = .ok (.istore_n 2, 1) := by decide +kernel
theorem d_Md_bits_2 : decode prog_14_method_35_code 2 = .ok (.iconst 0, 1) := by decide +kernel
theorem d_Md_bits_3 : decode prog_14_method_35_code 3 = .ok (.istore_n 3, 1) := by decide +kernel
theorem d_Md_bits_4 : decode prog_14_method_35_code 4 = .ok (.iload_n 3, 1) := by decide +kernel
theorem d_Md_bits_5 : decode prog_14_method_35_code 5 = .ok (.iload_n 1, 1) := by decide +kernel
theorem d_Md_bits_6 : decode prog_14_method_35_code 6 = .ok (.if_icmp .ge 50, 3) := by decide +kernel
theorem d_Md_bits_9 : decode prog_14_method_35_code 9 = .ok (.iload_n 2, 1) := by decide +kernel
theorem d_Md_bits_10 : decode prog_14_method_35_code 10 = .ok (.aload_n 0, 1) := by decide +kernel
theorem d_Md_bits_11 : decode prog_14_method_35_code 11 = .ok (.getfield 33, 3) := by decide +kernel
theorem d_Md_bits_14 : decode prog_14_method_35_code 14 = .ok (.aload_n 0, 1) := by decide +kernel
theorem d_Md_bits_15 : decode prog_14_method_35_code 15 = .ok (.getfield 201, 3) := by decide +kernel
theorem d_Md_bits_18 : decode prog_14_method_35_code 18 = .ok (.ldc2_w 199, 3) := by decide +kernel
theorem d_Md_bits_21 : decode prog_14_method_35_code 21 = .ok (.ldiv, 1) := by decide +kernel
theorem d_Md_bits_22 : decode prog_14_method_35_code 22 = .ok (.l2i, 1) := by decide +kernel
theorem d_Md_bits_23 : decode prog_14_method_35_code 23 = .ok (.baload, 1) := by decide +kernel
theorem d_Md_bits_24 : decode prog_14_method_35_code 24 = .ok (.aload_n 0, 1) := by decide +kernel
theorem d_Md_bits_25 : decode prog_14_method_35_code 25 = .ok (.getfield 201, 3) := by decide +kernel
theorem d_Md_bits_28 : decode prog_14_method_35_code 28 = .ok (.ldc2_w 199, 3) := by decide +kernel
theorem d_Md_bits_31 : decode prog_14_method_35_code 31 = .ok (.lrem, 1) := by decide +kernel
theorem d_Md_bits_32 : decode prog_14_method_35_code 32 = .ok (.l2i, 1) := by decide +kernel
theorem d_Md_bits_33 : decode prog_14_method_35_code 33 = .ok (.ishr, 1) := by decide +kernel
theorem d_Md_bits_34 : decode prog_14_method_35_code 34 = .ok (.iconst 1, 1) := by decide +kernel
theorem d_Md_bits_35 : decode prog_14_method_35_code 35 = .ok (.iand, 1) := by decide +kernel
theorem d_Md_bits_36 : decode prog_14_method_35_code 36 = .ok (.iload_n 3, 1) := by decide +kernel
theorem d_Md_bits_37 : decode prog_14_method_35_code 37 = .ok (.ishl, 1) := by decide +kernel
theorem d_Md_bits_38 : decode prog_14_method_35_code 38 = .ok (.ior, 1) := by decide +kernel
theorem d_Md_bits_39 : decode prog_14_method_35_code 39 = .ok (.istore_n 2, 1) := by decide +kernel
theorem d_Md_bits_40 : decode prog_14_method_35_code 40 = .ok (.aload_n 0, 1) := by decide +kernel
theorem d_Md_bits_41 : decode prog_14_method_35_code 41 = .ok (.dup, 1) := by decide +kernel
theorem d_Md_bits_42 : decode prog_14_method_35_code 42 = .ok (.getfield 201, 3) := by decide +kernel
theorem d_Md_bits_45 : decode prog_14_method_35_code 45 = .ok (.lconst 1, 1) := by decide +kernel
theorem d_Md_bits_46 : decode prog_14_method_35_code 46 = .ok (.ladd, 1) := by decide +kernel
theorem d_Md_bits_47 : decode prog_14_method_35_code 47 = .ok (.putfield 201, 3) := by decide +kernel
theorem d_Md_bits_50 : decode prog_14_method_35_code 50 = .ok (.iinc 3 1, 3) := by decide +kernel
theorem d_Md_bits_53 : decode prog_14_method_35_code 53 = .ok (.goto (-49), 3) := by decide +kernel
theorem d_Md_bits_56 : decode prog_14_method_35_code 56 = .ok (.iload_n 2, 1) := by decide +kernel
theorem d_Md_bits_57 : decode prog_14_method_35_code 57 = .ok (.ireturn, 1) := by decide +kernel
set_option maxRecDepth 100000 in
set_option maxHeartbeats 4000000 in
theorem c_Md_bits {l0 : Launch} (hl : l0.stackTraces = false) (n : Nat) (ids : List Nat) {t : Nat} (ht : mm_ok ids t 1 12) (a0 : Int32) (σ : Mm) : kw_C l0 y_Md_bits (Cond.code y_Md_bits prog_14_method_35_code 4 (some .int) :: kw_Ts) rm_Md_bits kw_oi ids [] [.ref t, .int a0] σ (F_Md_bits n t a0 σ) := by
  refine kw_start (L0 := [some (.ref t), some (.int a0), none, none]) hl (by decide +kernel) (Nat.le_of_ble_eq_true rfl) rfl (fun Γ ad C Ce => ?_)
  unfold F_Md_bits
  refine kw_iconst (v := 0) C d_Md_bits_0 (by decide) ?_
  refine kw_istore_n (L' := [some (.ref t), some (.int a0), some (.int 0), none]) C d_Md_bits_1 (by decide) rfl ?_
  refine kw_iconst (v := 0) C d_Md_bits_2 (by decide) ?_
  refine kw_istore_n (L' := [some (.ref t), some (.int a0), some (.int 0), some (.int 0)]) C d_Md_bits_3 (by decide) rfl ?_
  refine kw_wk (kw_l (α := Int32 × Int32) (pc := 4) (Lj := fun x2 => [some (.ref t), some (.int a0), some (.int x2.1), some (.int x2.2)]) (stj := fun x2 => []) (fun k1 hk1 x2 σ3 => ?_) n (0, 0) σ) ⟨Or.inr rfl, Or.inr rfl, Or.inr rfl, Or.inr rfl, trivial⟩
  refine kw_iload_n C d_Md_bits_4 rfl ?_
  refine kw_iload_n C d_Md_bits_5 rfl ?_
  refine kw_icmp_ge (tgt := 56) C d_Md_bits_6 (by decide) ?_ ?_
  · refine kw_iload_n C d_Md_bits_56 rfl ?_
    exact kw_iret C Ce rfl (by simp) (fun _ _ => rfl) (Nat.le_of_ble_eq_true rfl) (Nat.le_of_ble_eq_true rfl) rfl d_Md_bits_57
  · refine kw_iload_n C d_Md_bits_9 rfl ?_
    refine kw_aload_n C d_Md_bits_10 rfl ?_
    refine kw_getR C fi_Md_33 rfl rfl ht d_Md_bits_11 (fun o4 ho4 => ?_)
    refine kw_aload_n C d_Md_bits_14 rfl ?_
    refine kw_getJ C fi_Md_201 rfl ht d_Md_bits_15 ?_
    refine kw_ldc2 (v := 8) C d_Md_bits_18 k_Md_199 ?_
    refine kw_ldiv C d_Md_bits_21 ?_
    refine kw_l2i C d_Md_bits_22 ?_
    refine kw_leti (fun x5 => ?_)
    refine kw_bald C ho4 d_Md_bits_23 ?_
    refine kw_aload_n C d_Md_bits_24 rfl ?_
    refine kw_getJ C fi_Md_201 rfl ht d_Md_bits_25 ?_
    refine kw_ldc2 (v := 8) C d_Md_bits_28 k_Md_199 ?_
    refine kw_lrem C d_Md_bits_31 ?_
    refine kw_l2i C d_Md_bits_32 ?_
    refine kw_ishr C d_Md_bits_33 ?_
    refine kw_iconst (v := 1) C d_Md_bits_34 (by decide) ?_
    refine kw_iand C d_Md_bits_35 ?_
    refine kw_iload_n C d_Md_bits_36 rfl ?_
    refine kw_ishl C d_Md_bits_37 ?_
    refine kw_ior C d_Md_bits_38 ?_
    refine kw_leti (fun x6 => ?_)
    refine kw_istore_n (L' := [some (.ref t), some (.int a0), some (.int x6), some (.int x2.2)]) C d_Md_bits_39 (by decide) rfl ?_
    refine kw_aload_n C d_Md_bits_40 rfl ?_
    refine kw_dup C d_Md_bits_41 rfl ?_
    refine kw_getJ C fi_Md_201 rfl ht d_Md_bits_42 ?_
    refine kw_lconst (v := 1) C d_Md_bits_45 (by decide) ?_
    refine kw_ladd C d_Md_bits_46 ?_
    refine kw_putJ C fi_Md_201 rfl ht d_Md_bits_47 (fun σ7 => ?_)
    refine kw_iincL (L2 := fun x8 => [some (.ref t), some (.int a0), some (.int x6), some (.int x8)]) C d_Md_bits_50 (by decide) rfl (fun _ => rfl) (fun x8 => ?_)
    refine kw_goto (tgt := 4) C d_Md_bits_53 (by decide) ?_
    exact kw_wk (hk1 (x6, x8) σ7) ⟨Or.inr rfl, Or.inr rfl, Or.inr rfl, Or.inr rfl, trivial⟩
/-! Md_many -/
def rm_Md_many : Room := { frames := 0, cells := 0, slots := 0, locals := 0 }
def F_Md_many (n : Nat) (t : Nat) (a0 : Int32) (a1 : Int32) (a2 : Int32) (σ : Mm) : Option (Int32 × Mm) :=
kf_l (α := Int32 × Int32) n (fun k1 x2 σ3 =>
if a1 ≤ x2.2 then (
some (x2.1, σ3)) else (
Option.bind (gR σ3 (64 * t + 45)) fun o4 =>
kf_let (a0 + x2.2 : Int32) fun x5 =>
kf_in x5 (mm_kd o4).2.2 <|
kf_j (α := Int32 × Int32) (fun x7 σ8 =>
kf_let (x7.1 + x7.2 : Int32) fun x9 =>
kf_let (x2.2 + Int32.ofInt 1) fun x10 =>
k1 (x9, x10) σ8) fun k6 =>
if (gB σ3 o4 x5.toNatClampNeg) = a2 then (
k6 (x2.1, 1) σ3) else (
k6 (x2.1, 0) σ3))) (0, 0) σ
theorem d_Md_many_0 : decode prog_14_method_36_code 0 = .ok (.iconst 0, 1) := by decide +kernel
theorem d_Md_many_1 : decode prog_14_method_36_code 1 = .ok (.istore 4, 2) := by decide +kernel
theorem d_Md_many_3 : decode prog_14_method_36_code 3 = .ok (.iconst 0, 1) := by decide +kernel
theorem d_Md_many_4 : decode prog_14_method_36_code 4 = .ok (.istore 5, 2) := by decide +kernel
theorem d_Md_many_6 : decode prog_14_method_36_code 6 = .ok (.iload 5, 2) := by decide +kernel
theorem d_Md_many_8 : decode prog_14_method_36_code 8 = .ok (.iload_n 2, 1) := by decide +kernel
theorem d_Md_many_9 : decode prog_14_method_36_code 9 = .ok (.if_icmp .ge 32, 3) := by decide +kernel
theorem d_Md_many_12 : decode prog_14_method_36_code 12 = .ok (.iload 4, 2) := by decide +kernel
theorem d_Md_many_14 : decode prog_14_method_36_code 14 = .ok (.aload_n 0, 1) := by decide +kernel
theorem d_Md_many_15 : decode prog_14_method_36_code 15 = .ok (.getfield 58, 3) := by decide +kernel
theorem d_Md_many_18 : decode prog_14_method_36_code 18 = .ok (.iload_n 1, 1) := by decide +kernel
theorem d_Md_many_19 : decode prog_14_method_36_code 19 = .ok (.iload 5, 2) := by decide +kernel
theorem d_Md_many_21 : decode prog_14_method_36_code 21 = .ok (.iadd, 1) := by decide +kernel
theorem d_Md_many_22 : decode prog_14_method_36_code 22 = .ok (.iaload, 1) := by decide +kernel
theorem d_Md_many_23 : decode prog_14_method_36_code 23 = .ok (.iload_n 3, 1) := by decide +kernel
theorem d_Md_many_24 : decode prog_14_method_36_code 24 = .ok (.if_icmp .ne 7, 3) := by decide +kernel
theorem d_Md_many_27 : decode prog_14_method_36_code 27 = .ok (.iconst 1, 1) := by decide +kernel
theorem d_Md_many_28 : decode prog_14_method_36_code 28 = .ok (.goto 4, 3) := by decide +kernel
theorem d_Md_many_31 : decode prog_14_method_36_code 31 = .ok (.iconst 0, 1) := by decide +kernel
theorem d_Md_many_32 : decode prog_14_method_36_code 32 = .ok (.iadd, 1) := by decide +kernel
theorem d_Md_many_33 : decode prog_14_method_36_code 33 = .ok (.istore 4, 2) := by decide +kernel
theorem d_Md_many_35 : decode prog_14_method_36_code 35 = .ok (.iinc 5 1, 3) := by decide +kernel
theorem d_Md_many_38 : decode prog_14_method_36_code 38 = .ok (.goto (-32), 3) := by decide +kernel
theorem d_Md_many_41 : decode prog_14_method_36_code 41 = .ok (.iload 4, 2) := by decide +kernel
theorem d_Md_many_43 : decode prog_14_method_36_code 43 = .ok (.ireturn, 1) := by decide +kernel
set_option maxRecDepth 100000 in
set_option maxHeartbeats 4000000 in
theorem c_Md_many {l0 : Launch} (hl : l0.stackTraces = false) (n : Nat) (ids : List Nat) {t : Nat} (ht : mm_ok ids t 1 12) (a0 : Int32) (a1 : Int32) (a2 : Int32) (σ : Mm) : kw_C l0 y_Md_many (Cond.code y_Md_many prog_14_method_36_code 6 (some .int) :: kw_Ts) rm_Md_many kw_oi ids [] [.ref t, .int a0, .int a1, .int a2] σ (F_Md_many n t a0 a1 a2 σ) := by
  refine kw_start (L0 := [some (.ref t), some (.int a0), some (.int a1), some (.int a2), none, none]) hl (by decide +kernel) (Nat.le_of_ble_eq_true rfl) rfl (fun Γ ad C Ce => ?_)
  unfold F_Md_many
  refine kw_iconst (v := 0) C d_Md_many_0 (by decide) ?_
  refine kw_istore (L' := [some (.ref t), some (.int a0), some (.int a1), some (.int a2), some (.int 0), none]) C d_Md_many_1 (by decide) rfl ?_
  refine kw_iconst (v := 0) C d_Md_many_3 (by decide) ?_
  refine kw_istore (L' := [some (.ref t), some (.int a0), some (.int a1), some (.int a2), some (.int 0), some (.int 0)]) C d_Md_many_4 (by decide) rfl ?_
  refine kw_wk (kw_l (α := Int32 × Int32) (pc := 6) (Lj := fun x2 => [some (.ref t), some (.int a0), some (.int a1), some (.int a2), some (.int x2.1), some (.int x2.2)]) (stj := fun x2 => []) (fun k1 hk1 x2 σ3 => ?_) n (0, 0) σ) ⟨Or.inr rfl, Or.inr rfl, Or.inr rfl, Or.inr rfl, Or.inr rfl, Or.inr rfl, trivial⟩
  refine kw_iload C d_Md_many_6 rfl ?_
  refine kw_iload_n C d_Md_many_8 rfl ?_
  refine kw_icmp_ge (tgt := 41) C d_Md_many_9 (by decide) ?_ ?_
  · refine kw_iload C d_Md_many_41 rfl ?_
    exact kw_iret C Ce rfl (by simp) (fun _ _ => rfl) (Nat.le_of_ble_eq_true rfl) (Nat.le_of_ble_eq_true rfl) rfl d_Md_many_43
  · refine kw_iload C d_Md_many_12 rfl ?_
    refine kw_aload_n C d_Md_many_14 rfl ?_
    refine kw_getR C fi_Md_58 rfl rfl ht d_Md_many_15 (fun o4 ho4 => ?_)
    refine kw_iload_n C d_Md_many_18 rfl ?_
    refine kw_iload C d_Md_many_19 rfl ?_
    refine kw_iadd C d_Md_many_21 ?_
    refine kw_leti (fun x5 => ?_)
    refine kw_iald C (Or.inl ⟨ho4.1, ho4.2.1⟩) d_Md_many_22 ?_
    refine kw_iload_n C d_Md_many_23 rfl ?_
    refine kw_j (α := Int32 × Int32) (pcj := 32) (Lj := fun x7 => [some (.ref t), some (.int a0), some (.int a1), some (.int a2), none, some (.int x2.2)]) (stj := fun x7 => [.int x7.2, .int x7.1]) (fun x7 σ8 => ?_) (fun k6 hk6 => ?_)
    · refine kw_iadd C d_Md_many_32 ?_
      refine kw_leti (fun x9 => ?_)
      refine kw_istore (L' := [some (.ref t), some (.int a0), some (.int a1), some (.int a2), some (.int x9), some (.int x2.2)]) C d_Md_many_33 (by decide) rfl ?_
      refine kw_iincL (L2 := fun x10 => [some (.ref t), some (.int a0), some (.int a1), some (.int a2), some (.int x9), some (.int x10)]) C d_Md_many_35 (by decide) rfl (fun _ => rfl) (fun x10 => ?_)
      refine kw_goto (tgt := 6) C d_Md_many_38 (by decide) ?_
      exact kw_wk (hk1 (x9, x10) σ8) ⟨Or.inr rfl, Or.inr rfl, Or.inr rfl, Or.inr rfl, Or.inr rfl, Or.inr rfl, trivial⟩
    · refine kw_icmp_ne (tgt := 31) C d_Md_many_24 (by decide) ?_ ?_
      · refine kw_iconst (v := 0) C d_Md_many_31 (by decide) ?_
        exact kw_wk (hk6 (x2.1, 0) σ3) ⟨Or.inr rfl, Or.inr rfl, Or.inr rfl, Or.inr rfl, Or.inl rfl, Or.inr rfl, trivial⟩
      · refine kw_iconst (v := 1) C d_Md_many_27 (by decide) ?_
        refine kw_goto (tgt := 32) C d_Md_many_28 (by decide) ?_
        exact kw_wk (hk6 (x2.1, 1) σ3) ⟨Or.inr rfl, Or.inr rfl, Or.inr rfl, Or.inr rfl, Or.inl rfl, Or.inr rfl, trivial⟩
/-! Md_left -/
def rm_Md_left : Room := { frames := 1, cells := 0, slots := 0, locals := 25 }
def F_Md_left (n : Nat) (t : Nat) (a0 : Int32) (a1 : Int32) (σ : Mm) : Option (Int32 × Mm) :=
kf_l (α := Int32 × Int32) n (fun k1 x2 σ3 =>
if 16 ≤ x2.2 then (
some (x2.1, σ3)) else (
kf_c2 (F_Md_many n t a0 a1 x2.2 σ3) fun x4 σ5 =>
kf_let (x2.1 - (x4 <<< (((15 : Int32) - x2.2) &&& 31)) : Int32) fun x6 =>
kf_let (x2.2 + Int32.ofInt 1) fun x7 =>
k1 (x6, x7) σ5)) (32768, 1) σ
theorem d_Md_left_0 : decode prog_14_method_37_code 0 = .ok (.ldc 205, 2) := by decide +kernel
theorem d_Md_left_2 : decode prog_14_method_37_code 2 = .ok (.istore_n 3, 1) := by decide +kernel
theorem d_Md_left_3 : decode prog_14_method_37_code 3 = .ok (.iconst 1, 1) := by decide +kernel
theorem d_Md_left_4 : decode prog_14_method_37_code 4 = .ok (.istore 4, 2) := by decide +kernel
theorem d_Md_left_6 : decode prog_14_method_37_code 6 = .ok (.iload 4, 2) := by decide +kernel
theorem d_Md_left_8 : decode prog_14_method_37_code 8 = .ok (.bipush 16, 2) := by decide +kernel
theorem d_Md_left_10 : decode prog_14_method_37_code 10 = .ok (.if_icmp .ge 26, 3) := by decide +kernel
theorem d_Md_left_13 : decode prog_14_method_37_code 13 = .ok (.iload_n 3, 1) := by decide +kernel
theorem d_Md_left_14 : decode prog_14_method_37_code 14 = .ok (.aload_n 0, 1) := by decide +kernel
theorem d_Md_left_15 : decode prog_14_method_37_code 15 = .ok (.iload_n 1, 1) := by decide +kernel
theorem d_Md_left_16 : decode prog_14_method_37_code 16 = .ok (.iload_n 2, 1) := by decide +kernel
theorem d_Md_left_17 : decode prog_14_method_37_code 17 = .ok (.iload 4, 2) := by decide +kernel
theorem d_Md_left_19 : decode prog_14_method_37_code 19 = .ok (.invokevirtual 206, 3) := by decide +kernel
theorem d_Md_left_22 : decode prog_14_method_37_code 22 = .ok (.bipush 15, 2) := by decide +kernel
theorem d_Md_left_24 : decode prog_14_method_37_code 24 = .ok (.iload 4, 2) := by decide +kernel
theorem d_Md_left_26 : decode prog_14_method_37_code 26 = .ok (.isub, 1) := by decide +kernel
theorem d_Md_left_27 : decode prog_14_method_37_code 27 = .ok (.ishl, 1) := by decide +kernel
theorem d_Md_left_28 : decode prog_14_method_37_code 28 = .ok (.isub, 1) := by decide +kernel
theorem d_Md_left_29 : decode prog_14_method_37_code 29 = .ok (.istore_n 3, 1) := by decide +kernel
theorem d_Md_left_30 : decode prog_14_method_37_code 30 = .ok (.iinc 4 1, 3) := by decide +kernel
theorem d_Md_left_33 : decode prog_14_method_37_code 33 = .ok (.goto (-27), 3) := by decide +kernel
theorem d_Md_left_36 : decode prog_14_method_37_code 36 = .ok (.iload_n 3, 1) := by decide +kernel
theorem d_Md_left_37 : decode prog_14_method_37_code 37 = .ok (.ireturn, 1) := by decide +kernel
set_option maxRecDepth 100000 in
set_option maxHeartbeats 4000000 in
theorem c_Md_left {l0 : Launch} (hl : l0.stackTraces = false) (n : Nat) (ids : List Nat) {t : Nat} (ht : mm_ok ids t 1 12) (a0 : Int32) (a1 : Int32) (σ : Mm) : kw_C l0 y_Md_left (Cond.code y_Md_left prog_14_method_37_code 5 (some .int) :: kw_Ts) rm_Md_left kw_oi ids [] [.ref t, .int a0, .int a1] σ (F_Md_left n t a0 a1 σ) := by
  refine kw_start (L0 := [some (.ref t), some (.int a0), some (.int a1), none, none]) hl (by decide +kernel) (Nat.le_of_ble_eq_true rfl) rfl (fun Γ ad C Ce => ?_)
  unfold F_Md_left
  refine kw_ldc (v := 32768) C d_Md_left_0 k_Md_205 ?_
  refine kw_istore_n (L' := [some (.ref t), some (.int a0), some (.int a1), some (.int 32768), none]) C d_Md_left_2 (by decide) rfl ?_
  refine kw_iconst (v := 1) C d_Md_left_3 (by decide) ?_
  refine kw_istore (L' := [some (.ref t), some (.int a0), some (.int a1), some (.int 32768), some (.int 1)]) C d_Md_left_4 (by decide) rfl ?_
  refine kw_wk (kw_l (α := Int32 × Int32) (pc := 6) (Lj := fun x2 => [some (.ref t), some (.int a0), some (.int a1), some (.int x2.1), some (.int x2.2)]) (stj := fun x2 => []) (fun k1 hk1 x2 σ3 => ?_) n (32768, 1) σ) ⟨Or.inr rfl, Or.inr rfl, Or.inr rfl, Or.inr rfl, Or.inr rfl, trivial⟩
  refine kw_iload C d_Md_left_6 rfl ?_
  refine kw_bipush (v := 16) C d_Md_left_8 (by decide) ?_
  refine kw_icmp_ge (tgt := 36) C d_Md_left_10 (by decide) ?_ ?_
  · refine kw_iload_n C d_Md_left_36 rfl ?_
    exact kw_iret C Ce rfl (by simp) (fun _ _ => rfl) (Nat.le_of_ble_eq_true rfl) (Nat.le_of_ble_eq_true rfl) rfl d_Md_left_37
  · refine kw_iload_n C d_Md_left_13 rfl ?_
    refine kw_aload_n C d_Md_left_14 rfl ?_
    refine kw_iload_n C d_Md_left_15 rfl ?_
    refine kw_iload_n C d_Md_left_16 rfl ?_
    refine kw_iload C d_Md_left_17 rfl ?_
    refine kw_callVi (cl' := 0) (sl' := 0) (As := [.int a0, .int a1, .int x2.2]) C (c_Md_many hl n ids ht a0 a1 x2.2 σ3) mi_Md_206 v_Md_many ⟨_, _, rfl⟩ ht ⟨Nat.le_of_ble_eq_true rfl, Nat.le_of_ble_eq_true rfl⟩ (Nat.le_of_ble_eq_true rfl) ⟨Nat.le_of_ble_eq_true rfl, Nat.le_of_ble_eq_true rfl⟩ ⟨rfl, rfl⟩ rfl d_Md_left_19 (fun x4 σ5 => ?_)
    refine kw_bipush (v := 15) C d_Md_left_22 (by decide) ?_
    refine kw_iload C d_Md_left_24 rfl ?_
    refine kw_isub C d_Md_left_26 ?_
    refine kw_ishl C d_Md_left_27 ?_
    refine kw_isub C d_Md_left_28 ?_
    refine kw_leti (fun x6 => ?_)
    refine kw_istore_n (L' := [some (.ref t), some (.int a0), some (.int a1), some (.int x6), some (.int x2.2)]) C d_Md_left_29 (by decide) rfl ?_
    refine kw_iincL (L2 := fun x7 => [some (.ref t), some (.int a0), some (.int a1), some (.int x6), some (.int x7)]) C d_Md_left_30 (by decide) rfl (fun _ => rfl) (fun x7 => ?_)
    refine kw_goto (tgt := 6) C d_Md_left_33 (by decide) ?_
    exact kw_wk (hk1 (x6, x7) σ5) ⟨Or.inr rfl, Or.inr rfl, Or.inr rfl, Or.inr rfl, Or.inr rfl, trivial⟩
/-! Md_count -/
def rm_Md_count : Room := { frames := 1, cells := 0, slots := 0, locals := 21 }
def F_Md_count (n : Nat) (t : Nat) (a0 : Int32) (a1 : Int32) (σ : Mm) : Option (Mm) :=
kf_let (pS σ (64 * t + 51) 0) fun σ1 =>
kf_l (α := Int32) n (fun k2 x3 σ4 =>
if 16 ≤ x3 then (
kf_l (α := Int32) n (fun k5 x6 σ7 =>
if a1 ≤ x6 then (
some σ7) else (
Option.bind (gR σ7 (64 * t + 50)) fun o8 =>
Option.bind (gR σ7 (64 * t + 45)) fun o9 =>
kf_let (a0 + x6 : Int32) fun x10 =>
kf_in x10 (mm_kd o9).2.2 <|
kf_let (gB σ7 o9 x10.toNatClampNeg : Int32) fun x11 =>
kf_in x11 (mm_kd o8).2.2 <|
kf_in x11 (mm_kd o8).2.2 <| kf_let (pB σ7 o8 x11.toNatClampNeg ((gB σ7 o8 x11.toNatClampNeg) + 1)) fun σ12 =>
Option.bind (gR σ12 (64 * t + 45)) fun o13 =>
kf_let (a0 + x6 : Int32) fun x14 =>
kf_in x14 (mm_kd o13).2.2 <|
kf_c2 (F_Md_max n (gS σ12 (64 * t + 51)) (gB σ12 o13 x14.toNatClampNeg) σ12) fun x15 σ16 =>
kf_let (pS σ16 (64 * t + 51) x15) fun σ17 =>
kf_let (x6 + Int32.ofInt 1) fun x18 =>
k5 x18 σ17)) 0 σ4) else (
Option.bind (gR σ4 (64 * t + 50)) fun o19 =>
kf_in x3 (mm_kd o19).2.2 <| kf_let (pB σ4 o19 x3.toNatClampNeg 0) fun σ20 =>
kf_let (x3 + Int32.ofInt 1) fun x21 =>
k2 x21 σ20)) 0 σ1
theorem d_Md_count_0 : decode prog_14_method_38_code 0 = .ok (.aload_n 0, 1) := by decide +kernel
theorem d_Md_count_1 : decode prog_14_method_38_code 1 = .ok (.iconst 0, 1) := by decide +kernel
theorem d_Md_count_2 : decode prog_14_method_38_code 2 = .ok (.putfield 209, 3) := by decide +kernel
theorem d_Md_count_5 : decode prog_14_method_38_code 5 = .ok (.iconst 0, 1) := by decide +kernel
theorem d_Md_count_6 : decode prog_14_method_38_code 6 = .ok (.istore_n 3, 1) := by decide +kernel
theorem d_Md_count_7 : decode prog_14_method_38_code 7 = .ok (.iload_n 3, 1) := by decide +kernel
theorem d_Md_count_8 : decode prog_14_method_38_code 8 = .ok (.bipush 16, 2) := by decide +kernel
theorem d_Md_count_10 : decode prog_14_method_38_code 10 = .ok (.if_icmp .ge 16, 3) := by decide +kernel
theorem d_Md_count_13 : decode prog_14_method_38_code 13 = .ok (.aload_n 0, 1) := by decide +kernel
theorem d_Md_count_14 : decode prog_14_method_38_code 14 = .ok (.getfield 64, 3) := by decide +kernel
theorem d_Md_count_17 : decode prog_14_method_38_code 17 = .ok (.iload_n 3, 1) := by decide +kernel
theorem d_Md_count_18 : decode prog_14_method_38_code 18 = .ok (.iconst 0, 1) := by decide +kernel
theorem d_Md_count_19 : decode prog_14_method_38_code 19 = .ok (.iastore, 1) := by decide +kernel
theorem d_Md_count_20 : decode prog_14_method_38_code 20 = .ok (.iinc 3 1, 3) := by decide +kernel
theorem d_Md_count_23 : decode prog_14_method_38_code 23 = .ok (.goto (-16), 3) := by decide +kernel
theorem d_Md_count_26 : decode prog_14_method_38_code 26 = .ok (.iconst 0, 1) := by decide +kernel
theorem d_Md_count_27 : decode prog_14_method_38_code 27 = .ok (.istore_n 3, 1) := by decide +kernel
theorem d_Md_count_28 : decode prog_14_method_38_code 28 = .ok (.iload_n 3, 1) := by decide +kernel
theorem d_Md_count_29 : decode prog_14_method_38_code 29 = .ok (.iload_n 2, 1) := by decide +kernel
theorem d_Md_count_30 : decode prog_14_method_38_code 30 = .ok (.if_icmp .ge 45, 3) := by decide +kernel
theorem d_Md_count_33 : decode prog_14_method_38_code 33 = .ok (.aload_n 0, 1) := by decide +kernel
theorem d_Md_count_34 : decode prog_14_method_38_code 34 = .ok (.getfield 64, 3) := by decide +kernel
theorem d_Md_count_37 : decode prog_14_method_38_code 37 = .ok (.aload_n 0, 1) := by decide +kernel
theorem d_Md_count_38 : decode prog_14_method_38_code 38 = .ok (.getfield 58, 3) := by decide +kernel
theorem d_Md_count_41 : decode prog_14_method_38_code 41 = .ok (.iload_n 1, 1) := by decide +kernel
theorem d_Md_count_42 : decode prog_14_method_38_code 42 = .ok (.iload_n 3, 1) := by decide +kernel
theorem d_Md_count_43 : decode prog_14_method_38_code 43 = .ok (.iadd, 1) := by decide +kernel
theorem d_Md_count_44 : decode prog_14_method_38_code 44 = .ok (.iaload, 1) := by decide +kernel
theorem d_Md_count_45 : decode prog_14_method_38_code 45 = .ok (.dup2, 1) := by decide +kernel
theorem d_Md_count_46 : decode prog_14_method_38_code 46 = .ok (.iaload, 1) := by decide +kernel
theorem d_Md_count_47 : decode prog_14_method_38_code 47 = .ok (.iconst 1, 1) := by decide +kernel
theorem d_Md_count_48 : decode prog_14_method_38_code 48 = .ok (.iadd, 1) := by decide +kernel
theorem d_Md_count_49 : decode prog_14_method_38_code 49 = .ok (.iastore, 1) := by decide +kernel
theorem d_Md_count_50 : decode prog_14_method_38_code 50 = .ok (.aload_n 0, 1) := by decide +kernel
theorem d_Md_count_51 : decode prog_14_method_38_code 51 = .ok (.aload_n 0, 1) := by decide +kernel
theorem d_Md_count_52 : decode prog_14_method_38_code 52 = .ok (.getfield 209, 3) := by decide +kernel
theorem d_Md_count_55 : decode prog_14_method_38_code 55 = .ok (.aload_n 0, 1) := by decide +kernel
theorem d_Md_count_56 : decode prog_14_method_38_code 56 = .ok (.getfield 58, 3) := by decide +kernel
theorem d_Md_count_59 : decode prog_14_method_38_code 59 = .ok (.iload_n 1, 1) := by decide +kernel
theorem d_Md_count_60 : decode prog_14_method_38_code 60 = .ok (.iload_n 3, 1) := by decide +kernel
theorem d_Md_count_61 : decode prog_14_method_38_code 61 = .ok (.iadd, 1) := by decide +kernel
theorem d_Md_count_62 : decode prog_14_method_38_code 62 = .ok (.iaload, 1) := by decide +kernel
theorem d_Md_count_63 : decode prog_14_method_38_code 63 = .ok (.invokestatic 212, 3) := by decide +kernel
theorem d_Md_count_66 : decode prog_14_method_38_code 66 = .ok (.putfield 209, 3) := by decide +kernel
theorem d_Md_count_69 : decode prog_14_method_38_code 69 = .ok (.iinc 3 1, 3) := by decide +kernel
theorem d_Md_count_72 : decode prog_14_method_38_code 72 = .ok (.goto (-44), 3) := by decide +kernel
theorem d_Md_count_75 : decode prog_14_method_38_code 75 = .ok (.return_, 1) := by decide +kernel
set_option maxRecDepth 100000 in
set_option maxHeartbeats 4000000 in
theorem c_Md_count {l0 : Launch} (hl : l0.stackTraces = false) (n : Nat) (ids : List Nat) {t : Nat} (ht : mm_ok ids t 1 12) (a0 : Int32) (a1 : Int32) (σ : Mm) : kw_C l0 y_Md_count (Cond.code y_Md_count prog_14_method_38_code 4 none :: kw_Ts) rm_Md_count kw_ov ids [] [.ref t, .int a0, .int a1] σ (F_Md_count n t a0 a1 σ) := by
  refine kw_start (L0 := [some (.ref t), some (.int a0), some (.int a1), none]) hl (by decide +kernel) (Nat.le_of_ble_eq_true rfl) rfl (fun Γ ad C Ce => ?_)
  unfold F_Md_count
  refine kw_aload_n C d_Md_count_0 rfl ?_
  refine kw_iconst (v := 0) C d_Md_count_1 (by decide) ?_
  refine kw_putI C fi_Md_209 rfl ht d_Md_count_2 (fun σ1 => ?_)
  refine kw_iconst (v := 0) C d_Md_count_5 (by decide) ?_
  refine kw_istore_n (L' := [some (.ref t), some (.int a0), some (.int a1), some (.int 0)]) C d_Md_count_6 (by decide) rfl ?_
  refine kw_wk (kw_l (α := Int32) (pc := 7) (Lj := fun x3 => [some (.ref t), some (.int a0), some (.int a1), some (.int x3)]) (stj := fun x3 => []) (fun k2 hk2 x3 σ4 => ?_) n 0 σ1) ⟨Or.inr rfl, Or.inr rfl, Or.inr rfl, Or.inr rfl, trivial⟩
  refine kw_iload_n C d_Md_count_7 rfl ?_
  refine kw_bipush (v := 16) C d_Md_count_8 (by decide) ?_
  refine kw_icmp_ge (tgt := 26) C d_Md_count_10 (by decide) ?_ ?_
  · refine kw_iconst (v := 0) C d_Md_count_26 (by decide) ?_
    refine kw_istore_n (L' := [some (.ref t), some (.int a0), some (.int a1), some (.int 0)]) C d_Md_count_27 (by decide) rfl ?_
    refine kw_wk (kw_l (α := Int32) (pc := 28) (Lj := fun x6 => [some (.ref t), some (.int a0), some (.int a1), some (.int x6)]) (stj := fun x6 => []) (fun k5 hk5 x6 σ7 => ?_) n 0 σ4) ⟨Or.inr rfl, Or.inr rfl, Or.inr rfl, Or.inr rfl, trivial⟩
    refine kw_iload_n C d_Md_count_28 rfl ?_
    refine kw_iload_n C d_Md_count_29 rfl ?_
    refine kw_icmp_ge (tgt := 75) C d_Md_count_30 (by decide) ?_ ?_
    · exact kw_vret C Ce rfl (by simp) (fun _ _ => rfl) (Nat.le_of_ble_eq_true rfl) (Nat.le_of_ble_eq_true rfl) rfl d_Md_count_75
    · refine kw_aload_n C d_Md_count_33 rfl ?_
      refine kw_getR C fi_Md_64 rfl rfl ht d_Md_count_34 (fun o8 ho8 => ?_)
      refine kw_aload_n C d_Md_count_37 rfl ?_
      refine kw_getR C fi_Md_58 rfl rfl ht d_Md_count_38 (fun o9 ho9 => ?_)
      refine kw_iload_n C d_Md_count_41 rfl ?_
      refine kw_iload_n C d_Md_count_42 rfl ?_
      refine kw_iadd C d_Md_count_43 ?_
      refine kw_leti (fun x10 => ?_)
      refine kw_iald C (Or.inl ⟨ho9.1, ho9.2.1⟩) d_Md_count_44 ?_
      refine kw_leti (fun x11 => ?_)
      refine kw_dup2 C d_Md_count_45 rfl rfl ?_
      refine kw_iald C (Or.inl ⟨ho8.1, ho8.2.1⟩) d_Md_count_46 ?_
      refine kw_iconst (v := 1) C d_Md_count_47 (by decide) ?_
      refine kw_iadd C d_Md_count_48 ?_
      refine kw_iast C ho8 d_Md_count_49 (fun σ12 => ?_)
      refine kw_aload_n C d_Md_count_50 rfl ?_
      refine kw_aload_n C d_Md_count_51 rfl ?_
      refine kw_getI C fi_Md_209 (Or.inl rfl) ht d_Md_count_52 ?_
      refine kw_aload_n C d_Md_count_55 rfl ?_
      refine kw_getR C fi_Md_58 rfl rfl ht d_Md_count_56 (fun o13 ho13 => ?_)
      refine kw_iload_n C d_Md_count_59 rfl ?_
      refine kw_iload_n C d_Md_count_60 rfl ?_
      refine kw_iadd C d_Md_count_61 ?_
      refine kw_leti (fun x14 => ?_)
      refine kw_iald C (Or.inl ⟨ho13.1, ho13.2.1⟩) d_Md_count_62 ?_
      refine kw_callSi (cl' := 0) (sl' := 0) (As := [.int (gS σ12 (64 * t + 51)), .int (gB σ12 o13 x14.toNatClampNeg)]) C (c_Md_max hl n ids  (gS σ12 (64 * t + 51)) (gB σ12 o13 x14.toNatClampNeg) σ12) mi_Md_212 s_Md_max ⟨Nat.le_of_ble_eq_true rfl, Nat.le_of_ble_eq_true rfl⟩ (Nat.le_of_ble_eq_true rfl) ⟨Nat.le_of_ble_eq_true rfl, Nat.le_of_ble_eq_true rfl⟩ ⟨rfl, rfl⟩ rfl d_Md_count_63 (fun x15 σ16 => ?_)
      refine kw_putI C fi_Md_209 rfl ht d_Md_count_66 (fun σ17 => ?_)
      refine kw_iincL (L2 := fun x18 => [some (.ref t), some (.int a0), some (.int a1), some (.int x18)]) C d_Md_count_69 (by decide) rfl (fun _ => rfl) (fun x18 => ?_)
      refine kw_goto (tgt := 28) C d_Md_count_72 (by decide) ?_
      exact kw_wk (hk5 x18 σ17) ⟨Or.inr rfl, Or.inr rfl, Or.inr rfl, Or.inr rfl, trivial⟩
  · refine kw_aload_n C d_Md_count_13 rfl ?_
    refine kw_getR C fi_Md_64 rfl rfl ht d_Md_count_14 (fun o19 ho19 => ?_)
    refine kw_iload_n C d_Md_count_17 rfl ?_
    refine kw_iconst (v := 0) C d_Md_count_18 (by decide) ?_
    refine kw_iast C ho19 d_Md_count_19 (fun σ20 => ?_)
    refine kw_iincL (L2 := fun x21 => [some (.ref t), some (.int a0), some (.int a1), some (.int x21)]) C d_Md_count_20 (by decide) rfl (fun _ => rfl) (fun x21 => ?_)
    refine kw_goto (tgt := 7) C d_Md_count_23 (by decide) ?_
    exact kw_wk (hk2 x21 σ20) ⟨Or.inr rfl, Or.inr rfl, Or.inr rfl, Or.inr rfl, trivial⟩
/-! Md_isBegun -/
def rm_Md_isBegun : Room := { frames := 0, cells := 0, slots := 0, locals := 0 }
def F_Md_isBegun (n : Nat) (t : Nat) (a0 : Int32) (a1 : Int32) (a2 : Int32) (σ : Mm) : Option (Int32 × Mm) :=
kf_let (a0 + 1 : Int32) fun x1 =>
kf_l (α := Int32 × Int32) n (fun k2 x3 σ4 =>
if 16 ≤ x3.2 then (
kf_z 0 (some (0, σ4))) else (
kf_let ((2 : Int32) * x3.1 : Int32) fun x5 =>
Option.bind (gR σ4 (64 * t + 50)) fun o6 =>
kf_in x3.2 (mm_kd o6).2.2 <|
kf_let (gB σ4 o6 x3.2.toNatClampNeg : Int32) fun x7 =>
kf_let (a1 <<< ((x3.2 - a0) &&& 31) : Int32) fun x8 =>
kf_let (x8 + ((1 : Int32) <<< ((x3.2 - a0) &&& 31)) : Int32) fun x9 =>
kf_j (α := Unit) (fun x11 σ12 =>
kf_let (x5 + x7 : Int32) fun x13 =>
kf_let (x3.2 + Int32.ofInt 1) fun x14 =>
k2 (x13, x14) σ12) fun k10 =>
if x7 ≤ 0 then (
k10 () σ4) else (
if x9 ≤ x5 then (
k10 () σ4) else (
if (x5 + x7) ≤ x8 then (
k10 () σ4) else (
kf_z 1 (some (1, σ4))))))) (a2, x1) σ
theorem d_Md_isBegun_0 : decode prog_14_method_40_code 0 = .ok (.iload_n 3, 1) := by decide +kernel
theorem d_Md_isBegun_1 : decode prog_14_method_40_code 1 = .ok (.istore 4, 2) := by decide +kernel
theorem d_Md_isBegun_3 : decode prog_14_method_40_code 3 = .ok (.iload_n 1, 1) := by decide +kernel
theorem d_Md_isBegun_4 : decode prog_14_method_40_code 4 = .ok (.iconst 1, 1) := by decide +kernel
theorem d_Md_isBegun_5 : decode prog_14_method_40_code 5 = .ok (.iadd, 1) := by decide +kernel
theorem d_Md_isBegun_6 : decode prog_14_method_40_code 6 = .ok (.istore 5, 2) := by decide +kernel
theorem d_Md_isBegun_8 : decode prog_14_method_40_code 8 = .ok (.iload 5, 2) := by decide +kernel
theorem d_Md_isBegun_10 : decode prog_14_method_40_code 10 = .ok (.bipush 16, 2) := by decide +kernel
theorem d_Md_isBegun_12 : decode prog_14_method_40_code 12 = .ok (.if_icmp .ge 74, 3) := by decide +kernel
theorem d_Md_isBegun_15 : decode prog_14_method_40_code 15 = .ok (.iconst 2, 1) := by decide +kernel
theorem d_Md_isBegun_16 : decode prog_14_method_40_code 16 = .ok (.iload 4, 2) := by decide +kernel
theorem d_Md_isBegun_18 : decode prog_14_method_40_code 18 = .ok (.imul, 1) := by decide +kernel
theorem d_Md_isBegun_19 : decode prog_14_method_40_code 19 = .ok (.istore 4, 2) := by decide +kernel
theorem d_Md_isBegun_21 : decode prog_14_method_40_code 21 = .ok (.aload_n 0, 1) := by decide +kernel
theorem d_Md_isBegun_22 : decode prog_14_method_40_code 22 = .ok (.getfield 64, 3) := by decide +kernel
theorem d_Md_isBegun_25 : decode prog_14_method_40_code 25 = .ok (.iload 5, 2) := by decide +kernel
theorem d_Md_isBegun_27 : decode prog_14_method_40_code 27 = .ok (.iaload, 1) := by decide +kernel
theorem d_Md_isBegun_28 : decode prog_14_method_40_code 28 = .ok (.istore 6, 2) := by decide +kernel
theorem d_Md_isBegun_30 : decode prog_14_method_40_code 30 = .ok (.iload_n 2, 1) := by decide +kernel
theorem d_Md_isBegun_31 : decode prog_14_method_40_code 31 = .ok (.iload 5, 2) := by decide +kernel
theorem d_Md_isBegun_33 : decode prog_14_method_40_code 33 = .ok (.iload_n 1, 1) := by decide +kernel
theorem d_Md_isBegun_34 : decode prog_14_method_40_code 34 = .ok (.isub, 1) := by decide +kernel
theorem d_Md_isBegun_35 : decode prog_14_method_40_code 35 = .ok (.ishl, 1) := by decide +kernel
theorem d_Md_isBegun_36 : decode prog_14_method_40_code 36 = .ok (.istore 7, 2) := by decide +kernel
theorem d_Md_isBegun_38 : decode prog_14_method_40_code 38 = .ok (.iload 7, 2) := by decide +kernel
theorem d_Md_isBegun_40 : decode prog_14_method_40_code 40 = .ok (.iconst 1, 1) := by decide +kernel
theorem d_Md_isBegun_41 : decode prog_14_method_40_code 41 = .ok (.iload 5, 2) := by decide +kernel
theorem d_Md_isBegun_43 : decode prog_14_method_40_code 43 = .ok (.iload_n 1, 1) := by decide +kernel
theorem d_Md_isBegun_44 : decode prog_14_method_40_code 44 = .ok (.isub, 1) := by decide +kernel
theorem d_Md_isBegun_45 : decode prog_14_method_40_code 45 = .ok (.ishl, 1) := by decide +kernel
theorem d_Md_isBegun_46 : decode prog_14_method_40_code 46 = .ok (.iadd, 1) := by decide +kernel
theorem d_Md_isBegun_47 : decode prog_14_method_40_code 47 = .ok (.istore 8, 2) := by decide +kernel
theorem d_Md_isBegun_49 : decode prog_14_method_40_code 49 = .ok (.iload 6, 2) := by decide +kernel
theorem d_Md_isBegun_51 : decode prog_14_method_40_code 51 = .ok (.ifCond .le 22, 3) := by decide +kernel
theorem d_Md_isBegun_54 : decode prog_14_method_40_code 54 = .ok (.iload 4, 2) := by decide +kernel
theorem d_Md_isBegun_56 : decode prog_14_method_40_code 56 = .ok (.iload 8, 2) := by decide +kernel
theorem d_Md_isBegun_58 : decode prog_14_method_40_code 58 = .ok (.if_icmp .ge 15, 3) := by decide +kernel
theorem d_Md_isBegun_61 : decode prog_14_method_40_code 61 = .ok (.iload 4, 2) := by decide +kernel
theorem d_Md_isBegun_63 : decode prog_14_method_40_code 63 = .ok (.iload 6, 2) := by decide +kernel
theorem d_Md_isBegun_65 : decode prog_14_method_40_code 65 = .ok (.iadd, 1) := by decide +kernel
theorem d_Md_isBegun_66 : decode prog_14_method_40_code 66 = .ok (.iload 7, 2) := by decide +kernel
theorem d_Md_isBegun_68 : decode prog_14_method_40_code 68 = .ok (.if_icmp .le 5, 3) := by decide +kernel
theorem d_Md_isBegun_71 : decode prog_14_method_40_code 71 = .ok (.iconst 1, 1) := by decide +kernel
theorem d_Md_isBegun_72 : decode prog_14_method_40_code 72 = .ok (.ireturn, 1) := by decide +kernel
theorem d_Md_isBegun_73 : decode prog_14_method_40_code 73 = .ok (.iload 4, 2) := by decide +kernel
theorem d_Md_isBegun_75 : decode prog_14_method_40_code 75 = .ok (.iload 6, 2) := by decide +kernel
theorem d_Md_isBegun_77 : decode prog_14_method_40_code 77 = .ok (.iadd, 1) := by decide +kernel
theorem d_Md_isBegun_78 : decode prog_14_method_40_code 78 = .ok (.istore 4, 2) := by decide +kernel
theorem d_Md_isBegun_80 : decode prog_14_method_40_code 80 = .ok (.iinc 5 1, 3) := by decide +kernel
theorem d_Md_isBegun_83 : decode prog_14_method_40_code 83 = .ok (.goto (-75), 3) := by decide +kernel
theorem d_Md_isBegun_86 : decode prog_14_method_40_code 86 = .ok (.iconst 0, 1) := by decide +kernel
theorem d_Md_isBegun_87 : decode prog_14_method_40_code 87 = .ok (.ireturn, 1) := by decide +kernel
set_option maxRecDepth 100000 in
set_option maxHeartbeats 4000000 in
theorem c_Md_isBegun {l0 : Launch} (hl : l0.stackTraces = false) (n : Nat) (ids : List Nat) {t : Nat} (ht : mm_ok ids t 1 12) (a0 : Int32) (a1 : Int32) (a2 : Int32) (σ : Mm) : kw_C l0 y_Md_isBegun (Cond.code y_Md_isBegun prog_14_method_40_code 9 (some .boolean) :: kw_Ts) rm_Md_isBegun kw_oi ids [] [.ref t, .int a0, .int a1, .int a2] σ (F_Md_isBegun n t a0 a1 a2 σ) := by
  refine kw_start (L0 := [some (.ref t), some (.int a0), some (.int a1), some (.int a2), none, none, none, none, none]) hl (by decide +kernel) (Nat.le_of_ble_eq_true rfl) rfl (fun Γ ad C Ce => ?_)
  unfold F_Md_isBegun
  refine kw_iload_n C d_Md_isBegun_0 rfl ?_
  refine kw_istore (L' := [some (.ref t), some (.int a0), some (.int a1), some (.int a2), some (.int a2), none, none, none, none]) C d_Md_isBegun_1 (by decide) rfl ?_
  refine kw_iload_n C d_Md_isBegun_3 rfl ?_
  refine kw_iconst (v := 1) C d_Md_isBegun_4 (by decide) ?_
  refine kw_iadd C d_Md_isBegun_5 ?_
  refine kw_leti (fun x1 => ?_)
  refine kw_istore (L' := [some (.ref t), some (.int a0), some (.int a1), some (.int a2), some (.int a2), some (.int x1), none, none, none]) C d_Md_isBegun_6 (by decide) rfl ?_
  refine kw_wk (kw_l (α := Int32 × Int32) (pc := 8) (Lj := fun x3 => [some (.ref t), some (.int a0), some (.int a1), none, some (.int x3.1), some (.int x3.2), none, none, none]) (stj := fun x3 => []) (fun k2 hk2 x3 σ4 => ?_) n (a2, x1) σ) ⟨Or.inr rfl, Or.inr rfl, Or.inr rfl, Or.inl rfl, Or.inr rfl, Or.inr rfl, Or.inl rfl, Or.inl rfl, Or.inl rfl, trivial⟩
  refine kw_iload C d_Md_isBegun_8 rfl ?_
  refine kw_bipush (v := 16) C d_Md_isBegun_10 (by decide) ?_
  refine kw_icmp_ge (tgt := 86) C d_Md_isBegun_12 (by decide) ?_ ?_
  · refine kw_iconst (v := 0) C d_Md_isBegun_86 (by decide) ?_
    exact kw_zret C Ce rfl (by simp) (fun _ _ => rfl) (Nat.le_of_ble_eq_true rfl) (Nat.le_of_ble_eq_true rfl) rfl d_Md_isBegun_87
  · refine kw_iconst (v := 2) C d_Md_isBegun_15 (by decide) ?_
    refine kw_iload C d_Md_isBegun_16 rfl ?_
    refine kw_imul C d_Md_isBegun_18 ?_
    refine kw_leti (fun x5 => ?_)
    refine kw_istore (L' := [some (.ref t), some (.int a0), some (.int a1), none, some (.int x5), some (.int x3.2), none, none, none]) C d_Md_isBegun_19 (by decide) rfl ?_
    refine kw_aload_n C d_Md_isBegun_21 rfl ?_
    refine kw_getR C fi_Md_64 rfl rfl ht d_Md_isBegun_22 (fun o6 ho6 => ?_)
    refine kw_iload C d_Md_isBegun_25 rfl ?_
    refine kw_iald C (Or.inl ⟨ho6.1, ho6.2.1⟩) d_Md_isBegun_27 ?_
    refine kw_leti (fun x7 => ?_)
    refine kw_istore (L' := [some (.ref t), some (.int a0), some (.int a1), none, some (.int x5), some (.int x3.2), some (.int x7), none, none]) C d_Md_isBegun_28 (by decide) rfl ?_
    refine kw_iload_n C d_Md_isBegun_30 rfl ?_
    refine kw_iload C d_Md_isBegun_31 rfl ?_
    refine kw_iload_n C d_Md_isBegun_33 rfl ?_
    refine kw_isub C d_Md_isBegun_34 ?_
    refine kw_ishl C d_Md_isBegun_35 ?_
    refine kw_leti (fun x8 => ?_)
    refine kw_istore (L' := [some (.ref t), some (.int a0), some (.int a1), none, some (.int x5), some (.int x3.2), some (.int x7), some (.int x8), none]) C d_Md_isBegun_36 (by decide) rfl ?_
    refine kw_iload C d_Md_isBegun_38 rfl ?_
    refine kw_iconst (v := 1) C d_Md_isBegun_40 (by decide) ?_
    refine kw_iload C d_Md_isBegun_41 rfl ?_
    refine kw_iload_n C d_Md_isBegun_43 rfl ?_
    refine kw_isub C d_Md_isBegun_44 ?_
    refine kw_ishl C d_Md_isBegun_45 ?_
    refine kw_iadd C d_Md_isBegun_46 ?_
    refine kw_leti (fun x9 => ?_)
    refine kw_istore (L' := [some (.ref t), some (.int a0), some (.int a1), none, some (.int x5), some (.int x3.2), some (.int x7), some (.int x8), some (.int x9)]) C d_Md_isBegun_47 (by decide) rfl ?_
    refine kw_iload C d_Md_isBegun_49 rfl ?_
    refine kw_j (α := Unit) (pcj := 73) (Lj := fun x11 => [some (.ref t), some (.int a0), some (.int a1), none, some (.int x5), some (.int x3.2), some (.int x7), none, none]) (stj := fun x11 => []) (fun x11 σ12 => ?_) (fun k10 hk10 => ?_)
    · refine kw_iload C d_Md_isBegun_73 rfl ?_
      refine kw_iload C d_Md_isBegun_75 rfl ?_
      refine kw_iadd C d_Md_isBegun_77 ?_
      refine kw_leti (fun x13 => ?_)
      refine kw_istore (L' := [some (.ref t), some (.int a0), some (.int a1), none, some (.int x13), some (.int x3.2), some (.int x7), none, none]) C d_Md_isBegun_78 (by decide) rfl ?_
      refine kw_iincL (L2 := fun x14 => [some (.ref t), some (.int a0), some (.int a1), none, some (.int x13), some (.int x14), some (.int x7), none, none]) C d_Md_isBegun_80 (by decide) rfl (fun _ => rfl) (fun x14 => ?_)
      refine kw_goto (tgt := 8) C d_Md_isBegun_83 (by decide) ?_
      exact kw_wk (hk2 (x13, x14) σ12) ⟨Or.inr rfl, Or.inr rfl, Or.inr rfl, Or.inl rfl, Or.inr rfl, Or.inr rfl, Or.inl rfl, Or.inl rfl, Or.inl rfl, trivial⟩
    · refine kw_if_le (tgt := 73) C d_Md_isBegun_51 (by decide) ?_ ?_
      · exact kw_wk (hk10 () σ4) ⟨Or.inr rfl, Or.inr rfl, Or.inr rfl, Or.inl rfl, Or.inr rfl, Or.inr rfl, Or.inr rfl, Or.inl rfl, Or.inl rfl, trivial⟩
      · refine kw_iload C d_Md_isBegun_54 rfl ?_
        refine kw_iload C d_Md_isBegun_56 rfl ?_
        refine kw_icmp_ge (tgt := 73) C d_Md_isBegun_58 (by decide) ?_ ?_
        · exact kw_wk (hk10 () σ4) ⟨Or.inr rfl, Or.inr rfl, Or.inr rfl, Or.inl rfl, Or.inr rfl, Or.inr rfl, Or.inr rfl, Or.inl rfl, Or.inl rfl, trivial⟩
        · refine kw_iload C d_Md_isBegun_61 rfl ?_
          refine kw_iload C d_Md_isBegun_63 rfl ?_
          refine kw_iadd C d_Md_isBegun_65 ?_
          refine kw_iload C d_Md_isBegun_66 rfl ?_
          refine kw_icmp_le (tgt := 73) C d_Md_isBegun_68 (by decide) ?_ ?_
          · exact kw_wk (hk10 () σ4) ⟨Or.inr rfl, Or.inr rfl, Or.inr rfl, Or.inl rfl, Or.inr rfl, Or.inr rfl, Or.inr rfl, Or.inl rfl, Or.inl rfl, trivial⟩
          · refine kw_iconst (v := 1) C d_Md_isBegun_71 (by decide) ?_
            exact kw_zret C Ce rfl (by simp) (fun _ _ => rfl) (Nat.le_of_ble_eq_true rfl) (Nat.le_of_ble_eq_true rfl) rfl d_Md_isBegun_72
/-! Md_readCode -/
def rm_Md_readCode : Room := { frames := 2, cells := 0, slots := 0, locals := 44 }
def F_Md_readCode (n : Nat) (t : Nat) (a0 : Int32) (a1 : Int32) (σ : Mm) : Option (Int32 × Mm) :=
kf_let (pS σ (64 * t + 49) (-1)) fun σ1 =>
Option.bind (F_Md_count n t a0 a1 σ1) fun σ2 =>
kf_l (α := Int32 × Int32 × Int32) n (fun k3 x4 σ5 =>
if (gS σ5 (64 * t + 51)) < x4.2.2 then (
kf_z 0 (some (0, σ5))) else (
kf_c2 (F_Md_hasBits n t 1 σ5) fun x6 σ7 =>
if x6 = 0 then (
kf_let (pS σ7 (64 * t + 49) (-2)) fun σ36 =>
kf_z 0 (some (0, σ36))) else (
kf_c2 (F_Md_bits n t 1 σ7) fun x8 σ9 =>
kf_let (((2 : Int32) * x4.2.1) + x8 : Int32) fun x10 =>
kf_let ((2 : Int32) * x4.1 : Int32) fun x11 =>
Option.bind (gR σ9 (64 * t + 50)) fun o12 =>
kf_in x4.2.2 (mm_kd o12).2.2 <|
kf_let (gB σ9 o12 x4.2.2.toNatClampNeg : Int32) fun x13 =>
kf_j (α := Unit) (fun x15 σ16 =>
kf_let (x11 + x13 : Int32) fun x17 =>
kf_c2 (F_Md_isBegun n t x4.2.2 x10 x17 σ16) fun x18 σ19 =>
if x18 = 0 then (
kf_z 0 (some (0, σ19))) else (
kf_let (x4.2.2 + Int32.ofInt 1) fun x20 =>
k3 (x17, x10, x20) σ19)) fun k14 =>
if x10 < x11 then (
k14 () σ9) else (
if (x11 + x13) ≤ x10 then (
k14 () σ9) else (
kf_let (x10 - x11 : Int32) fun x21 =>
kf_l (α := Int32 × Int32) n (fun k22 x23 σ24 =>
if a1 ≤ x23.2 then (
kf_z 1 (some (1, σ24))) else (
Option.bind (gR σ24 (64 * t + 45)) fun o25 =>
kf_let (a0 + x23.2 : Int32) fun x26 =>
kf_in x26 (mm_kd o25).2.2 <|
kf_j (α := Int32) (fun x28 σ29 =>
kf_let (x23.2 + Int32.ofInt 1) fun x30 =>
k22 (x28, x30) σ29) fun k27 =>
if (gB σ24 o25 x26.toNatClampNeg) = x4.2.2 then (
kf_j (α := Int32) (fun x32 σ33 =>
kf_let (pS σ33 (64 * t + 49) x32) fun σ34 =>
kf_let (x23.1 + Int32.ofInt (-1)) fun x35 =>
k27 x35 σ34) fun k31 =>
if x23.1 = 0 then (
k31 x23.2 σ24) else (
k31 (gS σ24 (64 * t + 49)) σ24)) else (
k27 x23.1 σ24))) (x21, 0) σ9))))) (0, 0, 1) σ2
theorem d_Md_readCode_0 : decode prog_14_method_39_code 0 = .ok (.iconst 0, 1) := by decide +kernel
theorem d_Md_readCode_1 : decode prog_14_method_39_code 1 = .ok (.istore_n 3, 1) := by decide +kernel
theorem d_Md_readCode_2 : decode prog_14_method_39_code 2 = .ok (.iconst 0, 1) := by decide +kernel
theorem d_Md_readCode_3 : decode prog_14_method_39_code 3 = .ok (.istore 4, 2) := by decide +kernel
theorem d_Md_readCode_5 : decode prog_14_method_39_code 5 = .ok (.aload_n 0, 1) := by decide +kernel
theorem d_Md_readCode_6 : decode prog_14_method_39_code 6 = .ok (.iconst (-1), 1) := by decide +kernel
theorem d_Md_readCode_7 : decode prog_14_method_39_code 7 = .ok (.putfield 216, 3) := by decide +kernel
theorem d_Md_readCode_10 : decode prog_14_method_39_code 10 = .ok (.aload_n 0, 1) := by decide +kernel
theorem d_Md_readCode_11 : decode prog_14_method_39_code 11 = .ok (.iload_n 1, 1) := by decide +kernel
theorem d_Md_readCode_12 : decode prog_14_method_39_code 12 = .ok (.iload_n 2, 1) := by decide +kernel
theorem d_Md_readCode_13 : decode prog_14_method_39_code 13 = .ok (.invokevirtual 219, 3) := by decide +kernel
theorem d_Md_readCode_16 : decode prog_14_method_39_code 16 = .ok (.iconst 1, 1) := by decide +kernel
theorem d_Md_readCode_17 : decode prog_14_method_39_code 17 = .ok (.istore 5, 2) := by decide +kernel
theorem d_Md_readCode_19 : decode prog_14_method_39_code 19 = .ok (.iload 5, 2) := by decide +kernel
theorem d_Md_readCode_21 : decode prog_14_method_39_code 21 = .ok (.aload_n 0, 1) := by decide +kernel
theorem d_Md_readCode_22 : decode prog_14_method_39_code 22 = .ok (.getfield 209, 3) := by decide +kernel
theorem d_Md_readCode_25 : decode prog_14_method_39_code 25 = .ok (.if_icmp .gt 142, 3) := by decide +kernel
theorem d_Md_readCode_28 : decode prog_14_method_39_code 28 = .ok (.aload_n 0, 1) := by decide +kernel
theorem d_Md_readCode_29 : decode prog_14_method_39_code 29 = .ok (.iconst 1, 1) := by decide +kernel
theorem d_Md_readCode_30 : decode prog_14_method_39_code 30 = .ok (.invokevirtual 223, 3) := by decide +kernel
theorem d_Md_readCode_33 : decode prog_14_method_39_code 33 = .ok (.ifCond .ne 11, 3) := by decide +kernel
theorem d_Md_readCode_36 : decode prog_14_method_39_code 36 = .ok (.aload_n 0, 1) := by decide +kernel
theorem d_Md_readCode_37 : decode prog_14_method_39_code 37 = .ok (.bipush (-2), 2) := by decide +kernel
theorem d_Md_readCode_39 : decode prog_14_method_39_code 39 = .ok (.putfield 216, 3) := by decide +kernel
theorem d_Md_readCode_42 : decode prog_14_method_39_code 42 = .ok (.iconst 0, 1) := by decide +kernel
theorem d_Md_readCode_43 : decode prog_14_method_39_code 43 = .ok (.ireturn, 1) := by decide +kernel
theorem d_Md_readCode_44 : decode prog_14_method_39_code 44 = .ok (.iconst 2, 1) := by decide +kernel
theorem d_Md_readCode_45 : decode prog_14_method_39_code 45 = .ok (.iload 4, 2) := by decide +kernel
theorem d_Md_readCode_47 : decode prog_14_method_39_code 47 = .ok (.imul, 1) := by decide +kernel
theorem d_Md_readCode_48 : decode prog_14_method_39_code 48 = .ok (.aload_n 0, 1) := by decide +kernel
theorem d_Md_readCode_49 : decode prog_14_method_39_code 49 = .ok (.iconst 1, 1) := by decide +kernel
theorem d_Md_readCode_50 : decode prog_14_method_39_code 50 = .ok (.invokevirtual 226, 3) := by decide +kernel
theorem d_Md_readCode_53 : decode prog_14_method_39_code 53 = .ok (.iadd, 1) := by decide +kernel
theorem d_Md_readCode_54 : decode prog_14_method_39_code 54 = .ok (.istore 4, 2) := by decide +kernel
theorem d_Md_readCode_56 : decode prog_14_method_39_code 56 = .ok (.iconst 2, 1) := by decide +kernel
theorem d_Md_readCode_57 : decode prog_14_method_39_code 57 = .ok (.iload_n 3, 1) := by decide +kernel
theorem d_Md_readCode_58 : decode prog_14_method_39_code 58 = .ok (.imul, 1) := by decide +kernel
theorem d_Md_readCode_59 : decode prog_14_method_39_code 59 = .ok (.istore_n 3, 1) := by decide +kernel
theorem d_Md_readCode_60 : decode prog_14_method_39_code 60 = .ok (.aload_n 0, 1) := by decide +kernel
theorem d_Md_readCode_61 : decode prog_14_method_39_code 61 = .ok (.getfield 64, 3) := by decide +kernel
theorem d_Md_readCode_64 : decode prog_14_method_39_code 64 = .ok (.iload 5, 2) := by decide +kernel
theorem d_Md_readCode_66 : decode prog_14_method_39_code 66 = .ok (.iaload, 1) := by decide +kernel
theorem d_Md_readCode_67 : decode prog_14_method_39_code 67 = .ok (.istore 6, 2) := by decide +kernel
theorem d_Md_readCode_69 : decode prog_14_method_39_code 69 = .ok (.iload 4, 2) := by decide +kernel
theorem d_Md_readCode_71 : decode prog_14_method_39_code 71 = .ok (.iload_n 3, 1) := by decide +kernel
theorem d_Md_readCode_72 : decode prog_14_method_39_code 72 = .ok (.if_icmp .lt 70, 3) := by decide +kernel
theorem d_Md_readCode_75 : decode prog_14_method_39_code 75 = .ok (.iload 4, 2) := by decide +kernel
theorem d_Md_readCode_77 : decode prog_14_method_39_code 77 = .ok (.iload_n 3, 1) := by decide +kernel
theorem d_Md_readCode_78 : decode prog_14_method_39_code 78 = .ok (.iload 6, 2) := by decide +kernel
theorem d_Md_readCode_80 : decode prog_14_method_39_code 80 = .ok (.iadd, 1) := by decide +kernel
theorem d_Md_readCode_81 : decode prog_14_method_39_code 81 = .ok (.if_icmp .ge 61, 3) := by decide +kernel
theorem d_Md_readCode_84 : decode prog_14_method_39_code 84 = .ok (.iload 4, 2) := by decide +kernel
theorem d_Md_readCode_86 : decode prog_14_method_39_code 86 = .ok (.iload_n 3, 1) := by decide +kernel
theorem d_Md_readCode_87 : decode prog_14_method_39_code 87 = .ok (.isub, 1) := by decide +kernel
theorem d_Md_readCode_88 : decode prog_14_method_39_code 88 = .ok (.istore 7, 2) := by decide +kernel
theorem d_Md_readCode_90 : decode prog_14_method_39_code 90 = .ok (.iconst 0, 1) := by decide +kernel
theorem d_Md_readCode_91 : decode prog_14_method_39_code 91 = .ok (.istore 8, 2) := by decide +kernel
theorem d_Md_readCode_93 : decode prog_14_method_39_code 93 = .ok (.iload 8, 2) := by decide +kernel
theorem d_Md_readCode_95 : decode prog_14_method_39_code 95 = .ok (.iload_n 2, 1) := by decide +kernel
theorem d_Md_readCode_96 : decode prog_14_method_39_code 96 = .ok (.if_icmp .ge 44, 3) := by decide +kernel
theorem d_Md_readCode_99 : decode prog_14_method_39_code 99 = .ok (.aload_n 0, 1) := by decide +kernel
theorem d_Md_readCode_100 : decode prog_14_method_39_code 100 = .ok (.getfield 58, 3) := by decide +kernel
theorem d_Md_readCode_103 : decode prog_14_method_39_code 103 = .ok (.iload_n 1, 1) := by decide +kernel
theorem d_Md_readCode_104 : decode prog_14_method_39_code 104 = .ok (.iload 8, 2) := by decide +kernel
theorem d_Md_readCode_106 : decode prog_14_method_39_code 106 = .ok (.iadd, 1) := by decide +kernel
theorem d_Md_readCode_107 : decode prog_14_method_39_code 107 = .ok (.iaload, 1) := by decide +kernel
theorem d_Md_readCode_108 : decode prog_14_method_39_code 108 = .ok (.iload 5, 2) := by decide +kernel
theorem d_Md_readCode_110 : decode prog_14_method_39_code 110 = .ok (.if_icmp .ne 24, 3) := by decide +kernel
theorem d_Md_readCode_113 : decode prog_14_method_39_code 113 = .ok (.aload_n 0, 1) := by decide +kernel
theorem d_Md_readCode_114 : decode prog_14_method_39_code 114 = .ok (.iload 7, 2) := by decide +kernel
theorem d_Md_readCode_116 : decode prog_14_method_39_code 116 = .ok (.ifCond .ne 8, 3) := by decide +kernel
theorem d_Md_readCode_119 : decode prog_14_method_39_code 119 = .ok (.iload 8, 2) := by decide +kernel
theorem d_Md_readCode_121 : decode prog_14_method_39_code 121 = .ok (.goto 7, 3) := by decide +kernel
theorem d_Md_readCode_124 : decode prog_14_method_39_code 124 = .ok (.aload_n 0, 1) := by decide +kernel
theorem d_Md_readCode_125 : decode prog_14_method_39_code 125 = .ok (.getfield 216, 3) := by decide +kernel
theorem d_Md_readCode_128 : decode prog_14_method_39_code 128 = .ok (.putfield 216, 3) := by decide +kernel
theorem d_Md_readCode_131 : decode prog_14_method_39_code 131 = .ok (.iinc 7 (-1), 3) := by decide +kernel
theorem d_Md_readCode_134 : decode prog_14_method_39_code 134 = .ok (.iinc 8 1, 3) := by decide +kernel
theorem d_Md_readCode_137 : decode prog_14_method_39_code 137 = .ok (.goto (-44), 3) := by decide +kernel
theorem d_Md_readCode_140 : decode prog_14_method_39_code 140 = .ok (.iconst 1, 1) := by decide +kernel
theorem d_Md_readCode_141 : decode prog_14_method_39_code 141 = .ok (.ireturn, 1) := by decide +kernel
theorem d_Md_readCode_142 : decode prog_14_method_39_code 142 = .ok (.iload_n 3, 1) := by decide +kernel
theorem d_Md_readCode_143 : decode prog_14_method_39_code 143 = .ok (.iload 6, 2) := by decide +kernel
theorem d_Md_readCode_145 : decode prog_14_method_39_code 145 = .ok (.iadd, 1) := by decide +kernel
theorem d_Md_readCode_146 : decode prog_14_method_39_code 146 = .ok (.istore_n 3, 1) := by decide +kernel
theorem d_Md_readCode_147 : decode prog_14_method_39_code 147 = .ok (.aload_n 0, 1) := by decide +kernel
theorem d_Md_readCode_148 : decode prog_14_method_39_code 148 = .ok (.iload 5, 2) := by decide +kernel
theorem d_Md_readCode_150 : decode prog_14_method_39_code 150 = .ok (.iload 4, 2) := by decide +kernel
theorem d_Md_readCode_152 : decode prog_14_method_39_code 152 = .ok (.iload_n 3, 1) := by decide +kernel
theorem d_Md_readCode_153 : decode prog_14_method_39_code 153 = .ok (.invokevirtual 229, 3) := by decide +kernel
theorem d_Md_readCode_156 : decode prog_14_method_39_code 156 = .ok (.ifCond .ne 5, 3) := by decide +kernel
theorem d_Md_readCode_159 : decode prog_14_method_39_code 159 = .ok (.iconst 0, 1) := by decide +kernel
theorem d_Md_readCode_160 : decode prog_14_method_39_code 160 = .ok (.ireturn, 1) := by decide +kernel
theorem d_Md_readCode_161 : decode prog_14_method_39_code 161 = .ok (.iinc 5 1, 3) := by decide +kernel
theorem d_Md_readCode_164 : decode prog_14_method_39_code 164 = .ok (.goto (-145), 3) := by decide +kernel
theorem d_Md_readCode_167 : decode prog_14_method_39_code 167 = .ok (.iconst 0, 1) := by decide +kernel
theorem d_Md_readCode_168 : decode prog_14_method_39_code 168 = .ok (.ireturn, 1) := by decide +kernel
set_option maxRecDepth 100000 in
set_option maxHeartbeats 4000000 in
theorem c_Md_readCode {l0 : Launch} (hl : l0.stackTraces = false) (n : Nat) (ids : List Nat) {t : Nat} (ht : mm_ok ids t 1 12) (a0 : Int32) (a1 : Int32) (σ : Mm) : kw_C l0 y_Md_readCode (Cond.code y_Md_readCode prog_14_method_39_code 9 (some .boolean) :: kw_Ts) rm_Md_readCode kw_oi ids [] [.ref t, .int a0, .int a1] σ (F_Md_readCode n t a0 a1 σ) := by
  refine kw_start (L0 := [some (.ref t), some (.int a0), some (.int a1), none, none, none, none, none, none]) hl (by decide +kernel) (Nat.le_of_ble_eq_true rfl) rfl (fun Γ ad C Ce => ?_)
  unfold F_Md_readCode
  refine kw_iconst (v := 0) C d_Md_readCode_0 (by decide) ?_
  refine kw_istore_n (L' := [some (.ref t), some (.int a0), some (.int a1), some (.int 0), none, none, none, none, none]) C d_Md_readCode_1 (by decide) rfl ?_
  refine kw_iconst (v := 0) C d_Md_readCode_2 (by decide) ?_
  refine kw_istore (L' := [some (.ref t), some (.int a0), some (.int a1), some (.int 0), some (.int 0), none, none, none, none]) C d_Md_readCode_3 (by decide) rfl ?_
  refine kw_aload_n C d_Md_readCode_5 rfl ?_
  refine kw_iconst (v := -1) C d_Md_readCode_6 (by decide) ?_
  refine kw_putI C fi_Md_216 rfl ht d_Md_readCode_7 (fun σ1 => ?_)
  refine kw_aload_n C d_Md_readCode_10 rfl ?_
  refine kw_iload_n C d_Md_readCode_11 rfl ?_
  refine kw_iload_n C d_Md_readCode_12 rfl ?_
  refine kw_callVv (cl' := 0) (sl' := 0) (As := [.int a0, .int a1]) C (c_Md_count hl n ids ht a0 a1 σ1) mi_Md_219 v_Md_count ⟨_, _, rfl⟩ ht ⟨Nat.le_of_ble_eq_true rfl, Nat.le_of_ble_eq_true rfl⟩ (Nat.le_of_ble_eq_true rfl) ⟨Nat.le_of_ble_eq_true rfl, Nat.le_of_ble_eq_true rfl⟩ ⟨rfl, rfl⟩ rfl d_Md_readCode_13 (fun σ2 => ?_)
  refine kw_iconst (v := 1) C d_Md_readCode_16 (by decide) ?_
  refine kw_istore (L' := [some (.ref t), some (.int a0), some (.int a1), some (.int 0), some (.int 0), some (.int 1), none, none, none]) C d_Md_readCode_17 (by decide) rfl ?_
  refine kw_wk (kw_l (α := Int32 × Int32 × Int32) (pc := 19) (Lj := fun x4 => [some (.ref t), some (.int a0), some (.int a1), some (.int x4.1), some (.int x4.2.1), some (.int x4.2.2), none, none, none]) (stj := fun x4 => []) (fun k3 hk3 x4 σ5 => ?_) n (0, 0, 1) σ2) ⟨Or.inr rfl, Or.inr rfl, Or.inr rfl, Or.inr rfl, Or.inr rfl, Or.inr rfl, Or.inl rfl, Or.inl rfl, Or.inl rfl, trivial⟩
  refine kw_iload C d_Md_readCode_19 rfl ?_
  refine kw_aload_n C d_Md_readCode_21 rfl ?_
  refine kw_getI C fi_Md_209 (Or.inl rfl) ht d_Md_readCode_22 ?_
  refine kw_icmp_gt (tgt := 167) C d_Md_readCode_25 (by decide) ?_ ?_
  · refine kw_iconst (v := 0) C d_Md_readCode_167 (by decide) ?_
    exact kw_zret C Ce rfl (by simp) (fun _ _ => rfl) (Nat.le_of_ble_eq_true rfl) (Nat.le_of_ble_eq_true rfl) rfl d_Md_readCode_168
  · refine kw_aload_n C d_Md_readCode_28 rfl ?_
    refine kw_iconst (v := 1) C d_Md_readCode_29 (by decide) ?_
    refine kw_callVi (cl' := 0) (sl' := 0) (As := [.int 1]) C (c_Md_hasBits hl n ids ht 1 σ5) mi_Md_223 v_Md_hasBits ⟨_, _, rfl⟩ ht ⟨Nat.le_of_ble_eq_true rfl, Nat.le_of_ble_eq_true rfl⟩ (Nat.le_of_ble_eq_true rfl) ⟨Nat.le_of_ble_eq_true rfl, Nat.le_of_ble_eq_true rfl⟩ ⟨rfl, rfl⟩ rfl d_Md_readCode_30 (fun x6 σ7 => ?_)
    refine kw_if_ne (tgt := 44) C d_Md_readCode_33 (by decide) ?_ ?_
    · refine kw_iconst (v := 2) C d_Md_readCode_44 (by decide) ?_
      refine kw_iload C d_Md_readCode_45 rfl ?_
      refine kw_imul C d_Md_readCode_47 ?_
      refine kw_aload_n C d_Md_readCode_48 rfl ?_
      refine kw_iconst (v := 1) C d_Md_readCode_49 (by decide) ?_
      refine kw_callVi (cl' := 0) (sl' := 0) (As := [.int 1]) C (c_Md_bits hl n ids ht 1 σ7) mi_Md_226 v_Md_bits ⟨_, _, rfl⟩ ht ⟨Nat.le_of_ble_eq_true rfl, Nat.le_of_ble_eq_true rfl⟩ (Nat.le_of_ble_eq_true rfl) ⟨Nat.le_of_ble_eq_true rfl, Nat.le_of_ble_eq_true rfl⟩ ⟨rfl, rfl⟩ rfl d_Md_readCode_50 (fun x8 σ9 => ?_)
      refine kw_iadd C d_Md_readCode_53 ?_
      refine kw_leti (fun x10 => ?_)
      refine kw_istore (L' := [some (.ref t), some (.int a0), some (.int a1), some (.int x4.1), some (.int x10), some (.int x4.2.2), none, none, none]) C d_Md_readCode_54 (by decide) rfl ?_
      refine kw_iconst (v := 2) C d_Md_readCode_56 (by decide) ?_
      refine kw_iload_n C d_Md_readCode_57 rfl ?_
      refine kw_imul C d_Md_readCode_58 ?_
      refine kw_leti (fun x11 => ?_)
      refine kw_istore_n (L' := [some (.ref t), some (.int a0), some (.int a1), some (.int x11), some (.int x10), some (.int x4.2.2), none, none, none]) C d_Md_readCode_59 (by decide) rfl ?_
      refine kw_aload_n C d_Md_readCode_60 rfl ?_
      refine kw_getR C fi_Md_64 rfl rfl ht d_Md_readCode_61 (fun o12 ho12 => ?_)
      refine kw_iload C d_Md_readCode_64 rfl ?_
      refine kw_iald C (Or.inl ⟨ho12.1, ho12.2.1⟩) d_Md_readCode_66 ?_
      refine kw_leti (fun x13 => ?_)
      refine kw_istore (L' := [some (.ref t), some (.int a0), some (.int a1), some (.int x11), some (.int x10), some (.int x4.2.2), some (.int x13), none, none]) C d_Md_readCode_67 (by decide) rfl ?_
      refine kw_iload C d_Md_readCode_69 rfl ?_
      refine kw_iload_n C d_Md_readCode_71 rfl ?_
      refine kw_j (α := Unit) (pcj := 142) (Lj := fun x15 => [some (.ref t), some (.int a0), some (.int a1), some (.int x11), some (.int x10), some (.int x4.2.2), some (.int x13), none, none]) (stj := fun x15 => []) (fun x15 σ16 => ?_) (fun k14 hk14 => ?_)
      · refine kw_iload_n C d_Md_readCode_142 rfl ?_
        refine kw_iload C d_Md_readCode_143 rfl ?_
        refine kw_iadd C d_Md_readCode_145 ?_
        refine kw_leti (fun x17 => ?_)
        refine kw_istore_n (L' := [some (.ref t), some (.int a0), some (.int a1), some (.int x17), some (.int x10), some (.int x4.2.2), some (.int x13), none, none]) C d_Md_readCode_146 (by decide) rfl ?_
        refine kw_aload_n C d_Md_readCode_147 rfl ?_
        refine kw_iload C d_Md_readCode_148 rfl ?_
        refine kw_iload C d_Md_readCode_150 rfl ?_
        refine kw_iload_n C d_Md_readCode_152 rfl ?_
        refine kw_callVi (cl' := 0) (sl' := 0) (As := [.int x4.2.2, .int x10, .int x17]) C (c_Md_isBegun hl n ids ht x4.2.2 x10 x17 σ16) mi_Md_229 v_Md_isBegun ⟨_, _, rfl⟩ ht ⟨Nat.le_of_ble_eq_true rfl, Nat.le_of_ble_eq_true rfl⟩ (Nat.le_of_ble_eq_true rfl) ⟨Nat.le_of_ble_eq_true rfl, Nat.le_of_ble_eq_true rfl⟩ ⟨rfl, rfl⟩ rfl d_Md_readCode_153 (fun x18 σ19 => ?_)
        refine kw_if_ne (tgt := 161) C d_Md_readCode_156 (by decide) ?_ ?_
        · refine kw_iincL (L2 := fun x20 => [some (.ref t), some (.int a0), some (.int a1), some (.int x17), some (.int x10), some (.int x20), some (.int x13), none, none]) C d_Md_readCode_161 (by decide) rfl (fun _ => rfl) (fun x20 => ?_)
          refine kw_goto (tgt := 19) C d_Md_readCode_164 (by decide) ?_
          exact kw_wk (hk3 (x17, x10, x20) σ19) ⟨Or.inr rfl, Or.inr rfl, Or.inr rfl, Or.inr rfl, Or.inr rfl, Or.inr rfl, Or.inl rfl, Or.inl rfl, Or.inl rfl, trivial⟩
        · refine kw_iconst (v := 0) C d_Md_readCode_159 (by decide) ?_
          exact kw_zret C Ce rfl (by simp) (fun _ _ => rfl) (Nat.le_of_ble_eq_true rfl) (Nat.le_of_ble_eq_true rfl) rfl d_Md_readCode_160
      · refine kw_icmp_lt (tgt := 142) C d_Md_readCode_72 (by decide) ?_ ?_
        · exact kw_wk (hk14 () σ9) ⟨Or.inr rfl, Or.inr rfl, Or.inr rfl, Or.inr rfl, Or.inr rfl, Or.inr rfl, Or.inr rfl, Or.inl rfl, Or.inl rfl, trivial⟩
        · refine kw_iload C d_Md_readCode_75 rfl ?_
          refine kw_iload_n C d_Md_readCode_77 rfl ?_
          refine kw_iload C d_Md_readCode_78 rfl ?_
          refine kw_iadd C d_Md_readCode_80 ?_
          refine kw_icmp_ge (tgt := 142) C d_Md_readCode_81 (by decide) ?_ ?_
          · exact kw_wk (hk14 () σ9) ⟨Or.inr rfl, Or.inr rfl, Or.inr rfl, Or.inr rfl, Or.inr rfl, Or.inr rfl, Or.inr rfl, Or.inl rfl, Or.inl rfl, trivial⟩
          · refine kw_iload C d_Md_readCode_84 rfl ?_
            refine kw_iload_n C d_Md_readCode_86 rfl ?_
            refine kw_isub C d_Md_readCode_87 ?_
            refine kw_leti (fun x21 => ?_)
            refine kw_istore (L' := [some (.ref t), some (.int a0), some (.int a1), some (.int x11), some (.int x10), some (.int x4.2.2), some (.int x13), some (.int x21), none]) C d_Md_readCode_88 (by decide) rfl ?_
            refine kw_iconst (v := 0) C d_Md_readCode_90 (by decide) ?_
            refine kw_istore (L' := [some (.ref t), some (.int a0), some (.int a1), some (.int x11), some (.int x10), some (.int x4.2.2), some (.int x13), some (.int x21), some (.int 0)]) C d_Md_readCode_91 (by decide) rfl ?_
            refine kw_wk (kw_l (α := Int32 × Int32) (pc := 93) (Lj := fun x23 => [some (.ref t), some (.int a0), some (.int a1), none, none, some (.int x4.2.2), none, some (.int x23.1), some (.int x23.2)]) (stj := fun x23 => []) (fun k22 hk22 x23 σ24 => ?_) n (x21, 0) σ9) ⟨Or.inr rfl, Or.inr rfl, Or.inr rfl, Or.inl rfl, Or.inl rfl, Or.inr rfl, Or.inl rfl, Or.inr rfl, Or.inr rfl, trivial⟩
            refine kw_iload C d_Md_readCode_93 rfl ?_
            refine kw_iload_n C d_Md_readCode_95 rfl ?_
            refine kw_icmp_ge (tgt := 140) C d_Md_readCode_96 (by decide) ?_ ?_
            · refine kw_iconst (v := 1) C d_Md_readCode_140 (by decide) ?_
              exact kw_zret C Ce rfl (by simp) (fun _ _ => rfl) (Nat.le_of_ble_eq_true rfl) (Nat.le_of_ble_eq_true rfl) rfl d_Md_readCode_141
            · refine kw_aload_n C d_Md_readCode_99 rfl ?_
              refine kw_getR C fi_Md_58 rfl rfl ht d_Md_readCode_100 (fun o25 ho25 => ?_)
              refine kw_iload_n C d_Md_readCode_103 rfl ?_
              refine kw_iload C d_Md_readCode_104 rfl ?_
              refine kw_iadd C d_Md_readCode_106 ?_
              refine kw_leti (fun x26 => ?_)
              refine kw_iald C (Or.inl ⟨ho25.1, ho25.2.1⟩) d_Md_readCode_107 ?_
              refine kw_iload C d_Md_readCode_108 rfl ?_
              refine kw_j (α := Int32) (pcj := 134) (Lj := fun x28 => [some (.ref t), some (.int a0), some (.int a1), none, none, some (.int x4.2.2), none, some (.int x28), some (.int x23.2)]) (stj := fun x28 => []) (fun x28 σ29 => ?_) (fun k27 hk27 => ?_)
              · refine kw_iincL (L2 := fun x30 => [some (.ref t), some (.int a0), some (.int a1), none, none, some (.int x4.2.2), none, some (.int x28), some (.int x30)]) C d_Md_readCode_134 (by decide) rfl (fun _ => rfl) (fun x30 => ?_)
                refine kw_goto (tgt := 93) C d_Md_readCode_137 (by decide) ?_
                exact kw_wk (hk22 (x28, x30) σ29) ⟨Or.inr rfl, Or.inr rfl, Or.inr rfl, Or.inl rfl, Or.inl rfl, Or.inr rfl, Or.inl rfl, Or.inr rfl, Or.inr rfl, trivial⟩
              · refine kw_icmp_ne (tgt := 134) C d_Md_readCode_110 (by decide) ?_ ?_
                · exact kw_wk (hk27 x23.1 σ24) ⟨Or.inr rfl, Or.inr rfl, Or.inr rfl, Or.inl rfl, Or.inl rfl, Or.inr rfl, Or.inl rfl, Or.inr rfl, Or.inr rfl, trivial⟩
                · refine kw_aload_n C d_Md_readCode_113 rfl ?_
                  refine kw_iload C d_Md_readCode_114 rfl ?_
                  refine kw_j (α := Int32) (pcj := 128) (Lj := fun x32 => [some (.ref t), some (.int a0), some (.int a1), none, none, some (.int x4.2.2), none, some (.int x23.1), some (.int x23.2)]) (stj := fun x32 => [.int x32, .ref t]) (fun x32 σ33 => ?_) (fun k31 hk31 => ?_)
                  · refine kw_putI C fi_Md_216 rfl ht d_Md_readCode_128 (fun σ34 => ?_)
                    refine kw_iincL (L2 := fun x35 => [some (.ref t), some (.int a0), some (.int a1), none, none, some (.int x4.2.2), none, some (.int x35), some (.int x23.2)]) C d_Md_readCode_131 (by decide) rfl (fun _ => rfl) (fun x35 => ?_)
                    exact kw_wk (hk27 x35 σ34) ⟨Or.inr rfl, Or.inr rfl, Or.inr rfl, Or.inl rfl, Or.inl rfl, Or.inr rfl, Or.inl rfl, Or.inr rfl, Or.inr rfl, trivial⟩
                  · refine kw_if_ne (tgt := 124) C d_Md_readCode_116 (by decide) ?_ ?_
                    · refine kw_aload_n C d_Md_readCode_124 rfl ?_
                      refine kw_getI C fi_Md_216 (Or.inl rfl) ht d_Md_readCode_125 ?_
                      exact kw_wk (hk31 (gS σ24 (64 * t + 49)) σ24) ⟨Or.inr rfl, Or.inr rfl, Or.inr rfl, Or.inl rfl, Or.inl rfl, Or.inr rfl, Or.inl rfl, Or.inr rfl, Or.inr rfl, trivial⟩
                    · refine kw_iload C d_Md_readCode_119 rfl ?_
                      refine kw_goto (tgt := 128) C d_Md_readCode_121 (by decide) ?_
                      exact kw_wk (hk31 x23.2 σ24) ⟨Or.inr rfl, Or.inr rfl, Or.inr rfl, Or.inl rfl, Or.inl rfl, Or.inr rfl, Or.inl rfl, Or.inr rfl, Or.inr rfl, trivial⟩
    · refine kw_aload_n C d_Md_readCode_36 rfl ?_
      refine kw_bipush (v := -2) C d_Md_readCode_37 (by decide) ?_
      refine kw_putI C fi_Md_216 rfl ht d_Md_readCode_39 (fun σ36 => ?_)
      refine kw_iconst (v := 0) C d_Md_readCode_42 (by decide) ?_
      exact kw_zret C Ce rfl (by simp) (fun _ _ => rfl) (Nat.le_of_ble_eq_true rfl) (Nat.le_of_ble_eq_true rfl) rfl d_Md_readCode_43
/-! Md_isCode -/
def rm_Md_isCode : Room := { frames := 3, cells := 0, slots := 0, locals := 72 }
def F_Md_isCode (n : Nat) (t : Nat) (a0 : Int32) (a1 : Int32) (σ : Mm) : Option (Int32 × Mm) :=
kf_let (gJ σ (64 * t + 43) : Int64) fun x1 =>
kf_c2 (F_Md_readCode n t a0 a1 σ) fun x2 σ3 =>
if x2 = 0 then (
kf_j (α := Int32) (fun x5 σ6 =>
kf_z x5 (some (x5, σ6))) fun k4 =>
kf_j (α := Unit) (fun x8 σ9 =>
k4 0 σ9) fun k7 =>
if (gS σ3 (64 * t + 49)) = (-2) then (
k7 () σ3) else (
kf_c2 (F_Md_placeOf n t x1 σ3) fun x10 σ11 =>
kf_c2 (F_Md_flaw n t 25 x10 σ11) fun x12 σ13 =>
if x12 = 0 then (
k7 () σ13) else (
k4 1 σ13))) else (
kf_z 1 (some (1, σ3)))
theorem d_Md_isCode_0 : decode prog_14_method_41_code 0 = .ok (.aload_n 0, 1) := by decide +kernel
theorem d_Md_isCode_1 : decode prog_14_method_41_code 1 = .ok (.getfield 201, 3) := by decide +kernel
theorem d_Md_isCode_4 : decode prog_14_method_41_code 4 = .ok (.lstore_n 3, 1) := by decide +kernel
theorem d_Md_isCode_5 : decode prog_14_method_41_code 5 = .ok (.aload_n 0, 1) := by decide +kernel
theorem d_Md_isCode_6 : decode prog_14_method_41_code 6 = .ok (.iload_n 1, 1) := by decide +kernel
theorem d_Md_isCode_7 : decode prog_14_method_41_code 7 = .ok (.iload_n 2, 1) := by decide +kernel
theorem d_Md_isCode_8 : decode prog_14_method_41_code 8 = .ok (.invokevirtual 233, 3) := by decide +kernel
theorem d_Md_isCode_11 : decode prog_14_method_41_code 11 = .ok (.ifCond .eq 5, 3) := by decide +kernel
theorem d_Md_isCode_14 : decode prog_14_method_41_code 14 = .ok (.iconst 1, 1) := by decide +kernel
theorem d_Md_isCode_15 : decode prog_14_method_41_code 15 = .ok (.ireturn, 1) := by decide +kernel
theorem d_Md_isCode_16 : decode prog_14_method_41_code 16 = .ok (.aload_n 0, 1) := by decide +kernel
theorem d_Md_isCode_17 : decode prog_14_method_41_code 17 = .ok (.getfield 216, 3) := by decide +kernel
theorem d_Md_isCode_20 : decode prog_14_method_41_code 20 = .ok (.bipush (-2), 2) := by decide +kernel
theorem d_Md_isCode_22 : decode prog_14_method_41_code 22 = .ok (.if_icmp .eq 21, 3) := by decide +kernel
theorem d_Md_isCode_25 : decode prog_14_method_41_code 25 = .ok (.aload_n 0, 1) := by decide +kernel
theorem d_Md_isCode_26 : decode prog_14_method_41_code 26 = .ok (.bipush 25, 2) := by decide +kernel
theorem d_Md_isCode_28 : decode prog_14_method_41_code 28 = .ok (.aload_n 0, 1) := by decide +kernel
theorem d_Md_isCode_29 : decode prog_14_method_41_code 29 = .ok (.lload_n 3, 1) := by decide +kernel
theorem d_Md_isCode_30 : decode prog_14_method_41_code 30 = .ok (.invokevirtual 236, 3) := by decide +kernel
theorem d_Md_isCode_33 : decode prog_14_method_41_code 33 = .ok (.invokevirtual 122, 3) := by decide +kernel
theorem d_Md_isCode_36 : decode prog_14_method_41_code 36 = .ok (.ifCond .eq 7, 3) := by decide +kernel
theorem d_Md_isCode_39 : decode prog_14_method_41_code 39 = .ok (.iconst 1, 1) := by decide +kernel
theorem d_Md_isCode_40 : decode prog_14_method_41_code 40 = .ok (.goto 4, 3) := by decide +kernel
theorem d_Md_isCode_43 : decode prog_14_method_41_code 43 = .ok (.iconst 0, 1) := by decide +kernel
theorem d_Md_isCode_44 : decode prog_14_method_41_code 44 = .ok (.ireturn, 1) := by decide +kernel
set_option maxRecDepth 100000 in
set_option maxHeartbeats 4000000 in
theorem c_Md_isCode {l0 : Launch} (hl : l0.stackTraces = false) (n : Nat) (ids : List Nat) {t : Nat} (ht : mm_ok ids t 1 12) (a0 : Int32) (a1 : Int32) (σ : Mm) : kw_C l0 y_Md_isCode (Cond.code y_Md_isCode prog_14_method_41_code 5 (some .boolean) :: kw_Ts) rm_Md_isCode kw_oi ids [] [.ref t, .int a0, .int a1] σ (F_Md_isCode n t a0 a1 σ) := by
  refine kw_start (L0 := [some (.ref t), some (.int a0), some (.int a1), none, none]) hl (by decide +kernel) (Nat.le_of_ble_eq_true rfl) rfl (fun Γ ad C Ce => ?_)
  unfold F_Md_isCode
  refine kw_aload_n C d_Md_isCode_0 rfl ?_
  refine kw_getJ C fi_Md_201 rfl ht d_Md_isCode_1 ?_
  refine kw_letl (fun x1 => ?_)
  refine kw_lstore_n (L' := [some (.ref t), some (.int a0), some (.int a1), some (.long x1), none]) C d_Md_isCode_4 (by decide) rfl ?_
  refine kw_aload_n C d_Md_isCode_5 rfl ?_
  refine kw_iload_n C d_Md_isCode_6 rfl ?_
  refine kw_iload_n C d_Md_isCode_7 rfl ?_
  refine kw_callVi (cl' := 0) (sl' := 0) (As := [.int a0, .int a1]) C (c_Md_readCode hl n ids ht a0 a1 σ) mi_Md_233 v_Md_readCode ⟨_, _, rfl⟩ ht ⟨Nat.le_of_ble_eq_true rfl, Nat.le_of_ble_eq_true rfl⟩ (Nat.le_of_ble_eq_true rfl) ⟨Nat.le_of_ble_eq_true rfl, Nat.le_of_ble_eq_true rfl⟩ ⟨rfl, rfl⟩ rfl d_Md_isCode_8 (fun x2 σ3 => ?_)
  refine kw_if_eq (tgt := 16) C d_Md_isCode_11 (by decide) ?_ ?_
  · refine kw_aload_n C d_Md_isCode_16 rfl ?_
    refine kw_getI C fi_Md_216 (Or.inl rfl) ht d_Md_isCode_17 ?_
    refine kw_bipush (v := -2) C d_Md_isCode_20 (by decide) ?_
    refine kw_j (α := Int32) (pcj := 44) (Lj := fun x5 => [none, none, none, none, none]) (stj := fun x5 => [.int x5]) (fun x5 σ6 => ?_) (fun k4 hk4 => ?_)
    · exact kw_zret C Ce rfl (by simp) (fun _ _ => rfl) (Nat.le_of_ble_eq_true rfl) (Nat.le_of_ble_eq_true rfl) rfl d_Md_isCode_44
    · refine kw_j (α := Unit) (pcj := 43) (Lj := fun x8 => [none, none, none, none, none]) (stj := fun x8 => []) (fun x8 σ9 => ?_) (fun k7 hk7 => ?_)
      · refine kw_iconst (v := 0) C d_Md_isCode_43 (by decide) ?_
        exact kw_wk (hk4 0 σ9) ⟨Or.inl rfl, Or.inl rfl, Or.inl rfl, Or.inl rfl, Or.inl rfl, trivial⟩
      · refine kw_icmp_eq (tgt := 43) C d_Md_isCode_22 (by decide) ?_ ?_
        · exact kw_wk (hk7 () σ3) ⟨Or.inl rfl, Or.inl rfl, Or.inl rfl, Or.inl rfl, Or.inl rfl, trivial⟩
        · refine kw_aload_n C d_Md_isCode_25 rfl ?_
          refine kw_bipush (v := 25) C d_Md_isCode_26 (by decide) ?_
          refine kw_aload_n C d_Md_isCode_28 rfl ?_
          refine kw_lload_n C d_Md_isCode_29 rfl ?_
          refine kw_callVi (cl' := 0) (sl' := 0) (As := [.long x1]) C (c_Md_placeOf hl n ids ht x1 σ3) mi_Md_236 v_Md_placeOf ⟨_, _, rfl⟩ ht ⟨Nat.le_of_ble_eq_true rfl, Nat.le_of_ble_eq_true rfl⟩ (Nat.le_of_ble_eq_true rfl) ⟨Nat.le_of_ble_eq_true rfl, Nat.le_of_ble_eq_true rfl⟩ ⟨rfl, rfl⟩ rfl d_Md_isCode_30 (fun x10 σ11 => ?_)
          refine kw_callVi (cl' := 0) (sl' := 0) (As := [.int 25, .int x10]) C (c_Md_flaw hl n ids ht 25 x10 σ11) mi_Md_122 v_Md_flaw ⟨_, _, rfl⟩ ht ⟨Nat.le_of_ble_eq_true rfl, Nat.le_of_ble_eq_true rfl⟩ (Nat.le_of_ble_eq_true rfl) ⟨Nat.le_of_ble_eq_true rfl, Nat.le_of_ble_eq_true rfl⟩ ⟨rfl, rfl⟩ rfl d_Md_isCode_33 (fun x12 σ13 => ?_)
          refine kw_if_eq (tgt := 43) C d_Md_isCode_36 (by decide) ?_ ?_
          · exact kw_wk (hk7 () σ13) ⟨Or.inl rfl, Or.inl rfl, Or.inl rfl, Or.inl rfl, Or.inl rfl, trivial⟩
          · refine kw_iconst (v := 1) C d_Md_isCode_39 (by decide) ?_
            refine kw_goto (tgt := 44) C d_Md_isCode_40 (by decide) ?_
            exact kw_wk (hk4 1 σ13) ⟨Or.inl rfl, Or.inl rfl, Or.inl rfl, Or.inl rfl, Or.inl rfl, trivial⟩
  · refine kw_iconst (v := 1) C d_Md_isCode_14 (by decide) ?_
    exact kw_zret C Ce rfl (by simp) (fun _ _ => rfl) (Nat.le_of_ble_eq_true rfl) (Nat.le_of_ble_eq_true rfl) rfl d_Md_isCode_15
/-! Md_align -/
def rm_Md_align : Room := { frames := 0, cells := 0, slots := 0, locals := 0 }
def F_Md_align (n : Nat) (t : Nat) (σ : Mm) : Option (Mm) :=
kf_nzl 8 <|
kf_let (pJ σ (64 * t + 43) ((((gJ σ (64 * t + 43)) + 7) / 8) * 8)) fun σ1 =>
some σ1
theorem d_Md_align_0 : decode prog_14_method_43_code 0 = .ok (.aload_n 0, 1) := by decide +kernel
theorem d_Md_align_1 : decode prog_14_method_43_code 1 = .ok (.aload_n 0, 1) := by decide +kernel
theorem d_Md_align_2 : decode prog_14_method_43_code 2 = .ok (.getfield 201, 3) := by decide +kernel
theorem d_Md_align_5 : decode prog_14_method_43_code 5 = .ok (.ldc2_w 257, 3) := by decide +kernel
theorem d_Md_align_8 : decode prog_14_method_43_code 8 = .ok (.ladd, 1) := by decide +kernel
theorem d_Md_align_9 : decode prog_14_method_43_code 9 = .ok (.ldc2_w 199, 3) := by decide +kernel
theorem d_Md_align_12 : decode prog_14_method_43_code 12 = .ok (.ldiv, 1) := by decide +kernel
theorem d_Md_align_13 : decode prog_14_method_43_code 13 = .ok (.ldc2_w 199, 3) := by decide +kernel
theorem d_Md_align_16 : decode prog_14_method_43_code 16 = .ok (.lmul, 1) := by decide +kernel
theorem d_Md_align_17 : decode prog_14_method_43_code 17 = .ok (.putfield 201, 3) := by decide +kernel
theorem d_Md_align_20 : decode prog_14_method_43_code 20 = .ok (.return_, 1) := by decide +kernel
set_option maxRecDepth 100000 in
set_option maxHeartbeats 4000000 in
theorem c_Md_align {l0 : Launch} (hl : l0.stackTraces = false) (n : Nat) (ids : List Nat) {t : Nat} (ht : mm_ok ids t 1 12)  (σ : Mm) : kw_C l0 y_Md_align (Cond.code y_Md_align prog_14_method_43_code 1 none :: kw_Ts) rm_Md_align kw_ov ids [] [.ref t] σ (F_Md_align n t σ) := by
  refine kw_start (L0 := [some (.ref t)]) hl (by decide +kernel) (Nat.le_of_ble_eq_true rfl) rfl (fun Γ ad C Ce => ?_)
  unfold F_Md_align
  refine kw_aload_n C d_Md_align_0 rfl ?_
  refine kw_aload_n C d_Md_align_1 rfl ?_
  refine kw_getJ C fi_Md_201 rfl ht d_Md_align_2 ?_
  refine kw_ldc2 (v := 7) C d_Md_align_5 k_Md_257 ?_
  refine kw_ladd C d_Md_align_8 ?_
  refine kw_ldc2 (v := 8) C d_Md_align_9 k_Md_199 ?_
  refine kw_ldiv C d_Md_align_12 ?_
  refine kw_ldc2 (v := 8) C d_Md_align_13 k_Md_199 ?_
  refine kw_lmul C d_Md_align_16 ?_
  refine kw_putJ C fi_Md_201 rfl ht d_Md_align_17 (fun σ1 => ?_)
  exact kw_vret C Ce rfl (by simp) (fun _ _ => rfl) (Nat.le_of_ble_eq_true rfl) (Nat.le_of_ble_eq_true rfl) rfl d_Md_align_20
/-! Md_readPlain -/
def rm_Md_readPlain : Room := { frames := 2, cells := 0, slots := 0, locals := 43 }
def F_Md_readPlain (n : Nat) (t : Nat) (σ : Mm) : Option (Int32 × Mm) :=
Option.bind (F_Md_align n t σ) fun σ1 =>
kf_c2 (F_Md_hasBits n t 32 σ1) fun x2 σ3 =>
if x2 = 0 then (
kf_z 0 (some (0, σ3))) else (
kf_c2 (F_Md_bits n t 16 σ3) fun x4 σ5 =>
kf_c2 (F_Md_placeOf n t (gJ σ5 (64 * t + 43)) σ5) fun x6 σ7 =>
kf_c2 (F_Md_bits n t 16 σ7) fun x8 σ9 =>
if x8 = ((65535 : Int32) - x4) then (
kf_l (α := Int32) n (fun k10 x11 σ12 =>
if x4 ≤ x11 then (
kf_z 1 (some (1, σ12))) else (
kf_c2 (F_Md_hasBits n t 8 σ12) fun x13 σ14 =>
if x13 = 0 then (
kf_z 0 (some (0, σ14))) else (
if (gS σ14 (64 * t + 31)) = (gS σ14 (64 * t + 32)) then (
kf_c2 (F_Md_placeOf n t (gJ σ14 (64 * t + 43)) σ14) fun x21 σ22 =>
kf_c2 (F_Md_flaw n t 26 x21 σ22) fun x23 σ24 =>
kf_z x23 (some (x23, σ24))) else (
Option.bind (gR σ14 (64 * t + 30)) fun o15 =>
kf_c2 (F_Md_bits n t 8 σ14) fun x16 σ17 =>
kf_in (gS σ14 (64 * t + 31)) (mm_kd o15).2.2 <| kf_let (pB σ17 o15 (gS σ14 (64 * t + 31)).toNatClampNeg (vp_nar .byte x16.toInt8.toInt32)) fun σ18 =>
kf_let (pS σ18 (64 * t + 31) ((gS σ18 (64 * t + 31)) + 1)) fun σ19 =>
kf_let (x11 + Int32.ofInt 1) fun x20 =>
k10 x20 σ19)))) 0 σ9) else (
kf_c2 (F_Md_flaw n t 23 x6 σ9) fun x25 σ26 =>
kf_z x25 (some (x25, σ26))))
theorem d_Md_readPlain_0 : decode prog_14_method_46_code 0 = .ok (.aload_n 0, 1) := by decide +kernel
theorem d_Md_readPlain_1 : decode prog_14_method_46_code 1 = .ok (.invokevirtual 259, 3) := by decide +kernel
theorem d_Md_readPlain_4 : decode prog_14_method_46_code 4 = .ok (.aload_n 0, 1) := by decide +kernel
theorem d_Md_readPlain_5 : decode prog_14_method_46_code 5 = .ok (.bipush 32, 2) := by decide +kernel
theorem d_Md_readPlain_7 : decode prog_14_method_46_code 7 = .ok (.invokevirtual 223, 3) := by decide +kernel
theorem d_Md_readPlain_10 : decode prog_14_method_46_code 10 = .ok (.ifCond .ne 5, 3) := by decide +kernel
theorem d_Md_readPlain_13 : decode prog_14_method_46_code 13 = .ok (.iconst 0, 1) := by decide +kernel
theorem d_Md_readPlain_14 : decode prog_14_method_46_code 14 = .ok (.ireturn, 1) := by decide +kernel
theorem d_Md_readPlain_15 : decode prog_14_method_46_code 15 = .ok (.aload_n 0, 1) := by decide +kernel
theorem d_Md_readPlain_16 : decode prog_14_method_46_code 16 = .ok (.bipush 16, 2) := by decide +kernel
theorem d_Md_readPlain_18 : decode prog_14_method_46_code 18 = .ok (.invokevirtual 226, 3) := by decide +kernel
theorem d_Md_readPlain_21 : decode prog_14_method_46_code 21 = .ok (.istore_n 1, 1) := by decide +kernel
theorem d_Md_readPlain_22 : decode prog_14_method_46_code 22 = .ok (.aload_n 0, 1) := by decide +kernel
theorem d_Md_readPlain_23 : decode prog_14_method_46_code 23 = .ok (.aload_n 0, 1) := by decide +kernel
theorem d_Md_readPlain_24 : decode prog_14_method_46_code 24 = .ok (.getfield 201, 3) := by decide +kernel
theorem d_Md_readPlain_27 : decode prog_14_method_46_code 27 = .ok (.invokevirtual 236, 3) := by decide +kernel
theorem d_Md_readPlain_30 : decode prog_14_method_46_code 30 = .ok (.istore_n 2, 1) := by decide +kernel
theorem d_Md_readPlain_31 : decode prog_14_method_46_code 31 = .ok (.aload_n 0, 1) := by decide +kernel
theorem d_Md_readPlain_32 : decode prog_14_method_46_code 32 = .ok (.bipush 16, 2) := by decide +kernel
theorem d_Md_readPlain_34 : decode prog_14_method_46_code 34 = .ok (.invokevirtual 226, 3) := by decide +kernel
theorem d_Md_readPlain_37 : decode prog_14_method_46_code 37 = .ok (.ldc_w 274, 3) := by decide +kernel
theorem d_Md_readPlain_40 : decode prog_14_method_46_code 40 = .ok (.iload_n 1, 1) := by decide +kernel
theorem d_Md_readPlain_41 : decode prog_14_method_46_code 41 = .ok (.isub, 1) := by decide +kernel
theorem d_Md_readPlain_42 : decode prog_14_method_46_code 42 = .ok (.if_icmp .eq 11, 3) := by decide +kernel
theorem d_Md_readPlain_45 : decode prog_14_method_46_code 45 = .ok (.aload_n 0, 1) := by decide +kernel
theorem d_Md_readPlain_46 : decode prog_14_method_46_code 46 = .ok (.bipush 23, 2) := by decide +kernel
theorem d_Md_readPlain_48 : decode prog_14_method_46_code 48 = .ok (.iload_n 2, 1) := by decide +kernel
theorem d_Md_readPlain_49 : decode prog_14_method_46_code 49 = .ok (.invokevirtual 122, 3) := by decide +kernel
theorem d_Md_readPlain_52 : decode prog_14_method_46_code 52 = .ok (.ireturn, 1) := by decide +kernel
theorem d_Md_readPlain_53 : decode prog_14_method_46_code 53 = .ok (.iconst 0, 1) := by decide +kernel
theorem d_Md_readPlain_54 : decode prog_14_method_46_code 54 = .ok (.istore_n 3, 1) := by decide +kernel
theorem d_Md_readPlain_55 : decode prog_14_method_46_code 55 = .ok (.iload_n 3, 1) := by decide +kernel
theorem d_Md_readPlain_56 : decode prog_14_method_46_code 56 = .ok (.iload_n 1, 1) := by decide +kernel
theorem d_Md_readPlain_57 : decode prog_14_method_46_code 57 = .ok (.if_icmp .ge 72, 3) := by decide +kernel
theorem d_Md_readPlain_60 : decode prog_14_method_46_code 60 = .ok (.aload_n 0, 1) := by decide +kernel
theorem d_Md_readPlain_61 : decode prog_14_method_46_code 61 = .ok (.bipush 8, 2) := by decide +kernel
theorem d_Md_readPlain_63 : decode prog_14_method_46_code 63 = .ok (.invokevirtual 223, 3) := by decide +kernel
theorem d_Md_readPlain_66 : decode prog_14_method_46_code 66 = .ok (.ifCond .ne 5, 3) := by decide +kernel
theorem d_Md_readPlain_69 : decode prog_14_method_46_code 69 = .ok (.iconst 0, 1) := by decide +kernel
theorem d_Md_readPlain_70 : decode prog_14_method_46_code 70 = .ok (.ireturn, 1) := by decide +kernel
theorem d_Md_readPlain_71 : decode prog_14_method_46_code 71 = .ok (.aload_n 0, 1) := by decide +kernel
theorem d_Md_readPlain_72 : decode prog_14_method_46_code 72 = .ok (.getfield 240, 3) := by decide +kernel
theorem d_Md_readPlain_75 : decode prog_14_method_46_code 75 = .ok (.aload_n 0, 1) := by decide +kernel
theorem d_Md_readPlain_76 : decode prog_14_method_46_code 76 = .ok (.getfield 262, 3) := by decide +kernel
theorem d_Md_readPlain_79 : decode prog_14_method_46_code 79 = .ok (.if_icmp .ne 18, 3) := by decide +kernel
theorem d_Md_readPlain_82 : decode prog_14_method_46_code 82 = .ok (.aload_n 0, 1) := by decide +kernel
theorem d_Md_readPlain_83 : decode prog_14_method_46_code 83 = .ok (.bipush 26, 2) := by decide +kernel
theorem d_Md_readPlain_85 : decode prog_14_method_46_code 85 = .ok (.aload_n 0, 1) := by decide +kernel
theorem d_Md_readPlain_86 : decode prog_14_method_46_code 86 = .ok (.aload_n 0, 1) := by decide +kernel
theorem d_Md_readPlain_87 : decode prog_14_method_46_code 87 = .ok (.getfield 201, 3) := by decide +kernel
theorem d_Md_readPlain_90 : decode prog_14_method_46_code 90 = .ok (.invokevirtual 236, 3) := by decide +kernel
theorem d_Md_readPlain_93 : decode prog_14_method_46_code 93 = .ok (.invokevirtual 122, 3) := by decide +kernel
theorem d_Md_readPlain_96 : decode prog_14_method_46_code 96 = .ok (.ireturn, 1) := by decide +kernel
theorem d_Md_readPlain_97 : decode prog_14_method_46_code 97 = .ok (.aload_n 0, 1) := by decide +kernel
theorem d_Md_readPlain_98 : decode prog_14_method_46_code 98 = .ok (.getfield 40, 3) := by decide +kernel
theorem d_Md_readPlain_101 : decode prog_14_method_46_code 101 = .ok (.aload_n 0, 1) := by decide +kernel
theorem d_Md_readPlain_102 : decode prog_14_method_46_code 102 = .ok (.getfield 240, 3) := by decide +kernel
theorem d_Md_readPlain_105 : decode prog_14_method_46_code 105 = .ok (.aload_n 0, 1) := by decide +kernel
theorem d_Md_readPlain_106 : decode prog_14_method_46_code 106 = .ok (.bipush 8, 2) := by decide +kernel
theorem d_Md_readPlain_108 : decode prog_14_method_46_code 108 = .ok (.invokevirtual 226, 3) := by decide +kernel
theorem d_Md_readPlain_111 : decode prog_14_method_46_code 111 = .ok (.i2b, 1) := by decide +kernel
theorem d_Md_readPlain_112 : decode prog_14_method_46_code 112 = .ok (.bastore, 1) := by decide +kernel
theorem d_Md_readPlain_113 : decode prog_14_method_46_code 113 = .ok (.aload_n 0, 1) := by decide +kernel
theorem d_Md_readPlain_114 : decode prog_14_method_46_code 114 = .ok (.dup, 1) := by decide +kernel
theorem d_Md_readPlain_115 : decode prog_14_method_46_code 115 = .ok (.getfield 240, 3) := by decide +kernel
theorem d_Md_readPlain_118 : decode prog_14_method_46_code 118 = .ok (.iconst 1, 1) := by decide +kernel
theorem d_Md_readPlain_119 : decode prog_14_method_46_code 119 = .ok (.iadd, 1) := by decide +kernel
theorem d_Md_readPlain_120 : decode prog_14_method_46_code 120 = .ok (.putfield 240, 3) := by decide +kernel
theorem d_Md_readPlain_123 : decode prog_14_method_46_code 123 = .ok (.iinc 3 1, 3) := by decide +kernel
theorem d_Md_readPlain_126 : decode prog_14_method_46_code 126 = .ok (.goto (-71), 3) := by decide +kernel
theorem d_Md_readPlain_129 : decode prog_14_method_46_code 129 = .ok (.iconst 1, 1) := by decide +kernel
theorem d_Md_readPlain_130 : decode prog_14_method_46_code 130 = .ok (.ireturn, 1) := by decide +kernel
set_option maxRecDepth 100000 in
set_option maxHeartbeats 4000000 in
theorem c_Md_readPlain {l0 : Launch} (hl : l0.stackTraces = false) (n : Nat) (ids : List Nat) {t : Nat} (ht : mm_ok ids t 1 12)  (σ : Mm) : kw_C l0 y_Md_readPlain (Cond.code y_Md_readPlain prog_14_method_46_code 4 (some .boolean) :: kw_Ts) rm_Md_readPlain kw_oi ids [] [.ref t] σ (F_Md_readPlain n t σ) := by
  refine kw_start (L0 := [some (.ref t), none, none, none]) hl (by decide +kernel) (Nat.le_of_ble_eq_true rfl) rfl (fun Γ ad C Ce => ?_)
  unfold F_Md_readPlain
  refine kw_aload_n C d_Md_readPlain_0 rfl ?_
  refine kw_callVv (cl' := 0) (sl' := 0) (As := []) C (c_Md_align hl n ids ht  σ) mi_Md_259 v_Md_align ⟨_, _, rfl⟩ ht ⟨Nat.le_of_ble_eq_true rfl, Nat.le_of_ble_eq_true rfl⟩ (Nat.le_of_ble_eq_true rfl) ⟨Nat.le_of_ble_eq_true rfl, Nat.le_of_ble_eq_true rfl⟩ ⟨rfl, rfl⟩ rfl d_Md_readPlain_1 (fun σ1 => ?_)
  refine kw_aload_n C d_Md_readPlain_4 rfl ?_
  refine kw_bipush (v := 32) C d_Md_readPlain_5 (by decide) ?_
  refine kw_callVi (cl' := 0) (sl' := 0) (As := [.int 32]) C (c_Md_hasBits hl n ids ht 32 σ1) mi_Md_223 v_Md_hasBits ⟨_, _, rfl⟩ ht ⟨Nat.le_of_ble_eq_true rfl, Nat.le_of_ble_eq_true rfl⟩ (Nat.le_of_ble_eq_true rfl) ⟨Nat.le_of_ble_eq_true rfl, Nat.le_of_ble_eq_true rfl⟩ ⟨rfl, rfl⟩ rfl d_Md_readPlain_7 (fun x2 σ3 => ?_)
  refine kw_if_ne (tgt := 15) C d_Md_readPlain_10 (by decide) ?_ ?_
  · refine kw_aload_n C d_Md_readPlain_15 rfl ?_
    refine kw_bipush (v := 16) C d_Md_readPlain_16 (by decide) ?_
    refine kw_callVi (cl' := 0) (sl' := 0) (As := [.int 16]) C (c_Md_bits hl n ids ht 16 σ3) mi_Md_226 v_Md_bits ⟨_, _, rfl⟩ ht ⟨Nat.le_of_ble_eq_true rfl, Nat.le_of_ble_eq_true rfl⟩ (Nat.le_of_ble_eq_true rfl) ⟨Nat.le_of_ble_eq_true rfl, Nat.le_of_ble_eq_true rfl⟩ ⟨rfl, rfl⟩ rfl d_Md_readPlain_18 (fun x4 σ5 => ?_)
    refine kw_istore_n (L' := [some (.ref t), some (.int x4), none, none]) C d_Md_readPlain_21 (by decide) rfl ?_
    refine kw_aload_n C d_Md_readPlain_22 rfl ?_
    refine kw_aload_n C d_Md_readPlain_23 rfl ?_
    refine kw_getJ C fi_Md_201 rfl ht d_Md_readPlain_24 ?_
    refine kw_callVi (cl' := 0) (sl' := 0) (As := [.long (gJ σ5 (64 * t + 43))]) C (c_Md_placeOf hl n ids ht (gJ σ5 (64 * t + 43)) σ5) mi_Md_236 v_Md_placeOf ⟨_, _, rfl⟩ ht ⟨Nat.le_of_ble_eq_true rfl, Nat.le_of_ble_eq_true rfl⟩ (Nat.le_of_ble_eq_true rfl) ⟨Nat.le_of_ble_eq_true rfl, Nat.le_of_ble_eq_true rfl⟩ ⟨rfl, rfl⟩ rfl d_Md_readPlain_27 (fun x6 σ7 => ?_)
    refine kw_istore_n (L' := [some (.ref t), some (.int x4), some (.int x6), none]) C d_Md_readPlain_30 (by decide) rfl ?_
    refine kw_aload_n C d_Md_readPlain_31 rfl ?_
    refine kw_bipush (v := 16) C d_Md_readPlain_32 (by decide) ?_
    refine kw_callVi (cl' := 0) (sl' := 0) (As := [.int 16]) C (c_Md_bits hl n ids ht 16 σ7) mi_Md_226 v_Md_bits ⟨_, _, rfl⟩ ht ⟨Nat.le_of_ble_eq_true rfl, Nat.le_of_ble_eq_true rfl⟩ (Nat.le_of_ble_eq_true rfl) ⟨Nat.le_of_ble_eq_true rfl, Nat.le_of_ble_eq_true rfl⟩ ⟨rfl, rfl⟩ rfl d_Md_readPlain_34 (fun x8 σ9 => ?_)
    refine kw_ldc_w (v := 65535) C d_Md_readPlain_37 k_Md_274 ?_
    refine kw_iload_n C d_Md_readPlain_40 rfl ?_
    refine kw_isub C d_Md_readPlain_41 ?_
    refine kw_icmp_eq (tgt := 53) C d_Md_readPlain_42 (by decide) ?_ ?_
    · refine kw_iconst (v := 0) C d_Md_readPlain_53 (by decide) ?_
      refine kw_istore_n (L' := [some (.ref t), some (.int x4), some (.int x6), some (.int 0)]) C d_Md_readPlain_54 (by decide) rfl ?_
      refine kw_wk (kw_l (α := Int32) (pc := 55) (Lj := fun x11 => [some (.ref t), some (.int x4), none, some (.int x11)]) (stj := fun x11 => []) (fun k10 hk10 x11 σ12 => ?_) n 0 σ9) ⟨Or.inr rfl, Or.inr rfl, Or.inl rfl, Or.inr rfl, trivial⟩
      refine kw_iload_n C d_Md_readPlain_55 rfl ?_
      refine kw_iload_n C d_Md_readPlain_56 rfl ?_
      refine kw_icmp_ge (tgt := 129) C d_Md_readPlain_57 (by decide) ?_ ?_
      · refine kw_iconst (v := 1) C d_Md_readPlain_129 (by decide) ?_
        exact kw_zret C Ce rfl (by simp) (fun _ _ => rfl) (Nat.le_of_ble_eq_true rfl) (Nat.le_of_ble_eq_true rfl) rfl d_Md_readPlain_130
      · refine kw_aload_n C d_Md_readPlain_60 rfl ?_
        refine kw_bipush (v := 8) C d_Md_readPlain_61 (by decide) ?_
        refine kw_callVi (cl' := 0) (sl' := 0) (As := [.int 8]) C (c_Md_hasBits hl n ids ht 8 σ12) mi_Md_223 v_Md_hasBits ⟨_, _, rfl⟩ ht ⟨Nat.le_of_ble_eq_true rfl, Nat.le_of_ble_eq_true rfl⟩ (Nat.le_of_ble_eq_true rfl) ⟨Nat.le_of_ble_eq_true rfl, Nat.le_of_ble_eq_true rfl⟩ ⟨rfl, rfl⟩ rfl d_Md_readPlain_63 (fun x13 σ14 => ?_)
        refine kw_if_ne (tgt := 71) C d_Md_readPlain_66 (by decide) ?_ ?_
        · refine kw_aload_n C d_Md_readPlain_71 rfl ?_
          refine kw_getI C fi_Md_240 (Or.inl rfl) ht d_Md_readPlain_72 ?_
          refine kw_aload_n C d_Md_readPlain_75 rfl ?_
          refine kw_getI C fi_Md_262 (Or.inl rfl) ht d_Md_readPlain_76 ?_
          refine kw_icmp_ne (tgt := 97) C d_Md_readPlain_79 (by decide) ?_ ?_
          · refine kw_aload_n C d_Md_readPlain_97 rfl ?_
            refine kw_getR C fi_Md_40 rfl rfl ht d_Md_readPlain_98 (fun o15 ho15 => ?_)
            refine kw_aload_n C d_Md_readPlain_101 rfl ?_
            refine kw_getI C fi_Md_240 (Or.inl rfl) ht d_Md_readPlain_102 ?_
            refine kw_aload_n C d_Md_readPlain_105 rfl ?_
            refine kw_bipush (v := 8) C d_Md_readPlain_106 (by decide) ?_
            refine kw_callVi (cl' := 0) (sl' := 0) (As := [.int 8]) C (c_Md_bits hl n ids ht 8 σ14) mi_Md_226 v_Md_bits ⟨_, _, rfl⟩ ht ⟨Nat.le_of_ble_eq_true rfl, Nat.le_of_ble_eq_true rfl⟩ (Nat.le_of_ble_eq_true rfl) ⟨Nat.le_of_ble_eq_true rfl, Nat.le_of_ble_eq_true rfl⟩ ⟨rfl, rfl⟩ rfl d_Md_readPlain_108 (fun x16 σ17 => ?_)
            refine kw_i2b C d_Md_readPlain_111 ?_
            refine kw_bast C ho15 d_Md_readPlain_112 (fun σ18 => ?_)
            refine kw_aload_n C d_Md_readPlain_113 rfl ?_
            refine kw_dup C d_Md_readPlain_114 rfl ?_
            refine kw_getI C fi_Md_240 (Or.inl rfl) ht d_Md_readPlain_115 ?_
            refine kw_iconst (v := 1) C d_Md_readPlain_118 (by decide) ?_
            refine kw_iadd C d_Md_readPlain_119 ?_
            refine kw_putI C fi_Md_240 rfl ht d_Md_readPlain_120 (fun σ19 => ?_)
            refine kw_iincL (L2 := fun x20 => [some (.ref t), some (.int x4), none, some (.int x20)]) C d_Md_readPlain_123 (by decide) rfl (fun _ => rfl) (fun x20 => ?_)
            refine kw_goto (tgt := 55) C d_Md_readPlain_126 (by decide) ?_
            exact kw_wk (hk10 x20 σ19) ⟨Or.inr rfl, Or.inr rfl, Or.inl rfl, Or.inr rfl, trivial⟩
          · refine kw_aload_n C d_Md_readPlain_82 rfl ?_
            refine kw_bipush (v := 26) C d_Md_readPlain_83 (by decide) ?_
            refine kw_aload_n C d_Md_readPlain_85 rfl ?_
            refine kw_aload_n C d_Md_readPlain_86 rfl ?_
            refine kw_getJ C fi_Md_201 rfl ht d_Md_readPlain_87 ?_
            refine kw_callVi (cl' := 0) (sl' := 0) (As := [.long (gJ σ14 (64 * t + 43))]) C (c_Md_placeOf hl n ids ht (gJ σ14 (64 * t + 43)) σ14) mi_Md_236 v_Md_placeOf ⟨_, _, rfl⟩ ht ⟨Nat.le_of_ble_eq_true rfl, Nat.le_of_ble_eq_true rfl⟩ (Nat.le_of_ble_eq_true rfl) ⟨Nat.le_of_ble_eq_true rfl, Nat.le_of_ble_eq_true rfl⟩ ⟨rfl, rfl⟩ rfl d_Md_readPlain_90 (fun x21 σ22 => ?_)
            refine kw_callVi (cl' := 0) (sl' := 0) (As := [.int 26, .int x21]) C (c_Md_flaw hl n ids ht 26 x21 σ22) mi_Md_122 v_Md_flaw ⟨_, _, rfl⟩ ht ⟨Nat.le_of_ble_eq_true rfl, Nat.le_of_ble_eq_true rfl⟩ (Nat.le_of_ble_eq_true rfl) ⟨Nat.le_of_ble_eq_true rfl, Nat.le_of_ble_eq_true rfl⟩ ⟨rfl, rfl⟩ rfl d_Md_readPlain_93 (fun x23 σ24 => ?_)
            exact kw_zret C Ce rfl (by simp) (fun _ _ => rfl) (Nat.le_of_ble_eq_true rfl) (Nat.le_of_ble_eq_true rfl) rfl d_Md_readPlain_96
        · refine kw_iconst (v := 0) C d_Md_readPlain_69 (by decide) ?_
          exact kw_zret C Ce rfl (by simp) (fun _ _ => rfl) (Nat.le_of_ble_eq_true rfl) (Nat.le_of_ble_eq_true rfl) rfl d_Md_readPlain_70
    · refine kw_aload_n C d_Md_readPlain_45 rfl ?_
      refine kw_bipush (v := 23) C d_Md_readPlain_46 (by decide) ?_
      refine kw_iload_n C d_Md_readPlain_48 rfl ?_
      refine kw_callVi (cl' := 0) (sl' := 0) (As := [.int 23, .int x6]) C (c_Md_flaw hl n ids ht 23 x6 σ9) mi_Md_122 v_Md_flaw ⟨_, _, rfl⟩ ht ⟨Nat.le_of_ble_eq_true rfl, Nat.le_of_ble_eq_true rfl⟩ (Nat.le_of_ble_eq_true rfl) ⟨Nat.le_of_ble_eq_true rfl, Nat.le_of_ble_eq_true rfl⟩ ⟨rfl, rfl⟩ rfl d_Md_readPlain_49 (fun x25 σ26 => ?_)
      exact kw_zret C Ce rfl (by simp) (fun _ _ => rfl) (Nat.le_of_ble_eq_true rfl) (Nat.le_of_ble_eq_true rfl) rfl d_Md_readPlain_52
  · refine kw_iconst (v := 0) C d_Md_readPlain_13 (by decide) ?_
    exact kw_zret C Ce rfl (by simp) (fun _ _ => rfl) (Nat.le_of_ble_eq_true rfl) (Nat.le_of_ble_eq_true rfl) rfl d_Md_readPlain_14
/-! Md_orderOf -/
def rm_Md_orderOf : Room := { frames := 0, cells := 0, slots := 0, locals := 0 }
def F_Md_orderOf (n : Nat) (a0 : Int32) (σ : Mm) : Option (Int32 × Mm) :=
kf_j (α := Int32) (fun x2 σ3 =>
some (x2, σ3)) fun k1 =>
if 3 ≤ a0 then (
if a0 = 3 then (
k1 0 σ) else (
kf_nz 2 <|
if (a0 - a0 / 2 * 2) = 0 then (
kf_nz 2 <|
k1 ((8 : Int32) + ((a0 - 4) / 2)) σ) else (
kf_nz 2 <|
k1 ((7 : Int32) - ((a0 - 5) / 2)) σ))) else (
k1 ((16 : Int32) + a0) σ)
theorem d_Md_orderOf_0 : decode prog_14_method_54_code 0 = .ok (.iload_n 0, 1) := by decide +kernel
theorem d_Md_orderOf_1 : decode prog_14_method_54_code 1 = .ok (.iconst 3, 1) := by decide +kernel
theorem d_Md_orderOf_2 : decode prog_14_method_54_code 2 = .ok (.if_icmp .ge 10, 3) := by decide +kernel
theorem d_Md_orderOf_5 : decode prog_14_method_54_code 5 = .ok (.bipush 16, 2) := by decide +kernel
theorem d_Md_orderOf_7 : decode prog_14_method_54_code 7 = .ok (.iload_n 0, 1) := by decide +kernel
theorem d_Md_orderOf_8 : decode prog_14_method_54_code 8 = .ok (.iadd, 1) := by decide +kernel
theorem d_Md_orderOf_9 : decode prog_14_method_54_code 9 = .ok (.goto 37, 3) := by decide +kernel
theorem d_Md_orderOf_12 : decode prog_14_method_54_code 12 = .ok (.iload_n 0, 1) := by decide +kernel
theorem d_Md_orderOf_13 : decode prog_14_method_54_code 13 = .ok (.iconst 3, 1) := by decide +kernel
theorem d_Md_orderOf_14 : decode prog_14_method_54_code 14 = .ok (.if_icmp .ne 7, 3) := by decide +kernel
theorem d_Md_orderOf_17 : decode prog_14_method_54_code 17 = .ok (.iconst 0, 1) := by decide +kernel
theorem d_Md_orderOf_18 : decode prog_14_method_54_code 18 = .ok (.goto 28, 3) := by decide +kernel
theorem d_Md_orderOf_21 : decode prog_14_method_54_code 21 = .ok (.iload_n 0, 1) := by decide +kernel
theorem d_Md_orderOf_22 : decode prog_14_method_54_code 22 = .ok (.iconst 2, 1) := by decide +kernel
theorem d_Md_orderOf_23 : decode prog_14_method_54_code 23 = .ok (.irem, 1) := by decide +kernel
theorem d_Md_orderOf_24 : decode prog_14_method_54_code 24 = .ok (.ifCond .ne 14, 3) := by decide +kernel
theorem d_Md_orderOf_27 : decode prog_14_method_54_code 27 = .ok (.bipush 8, 2) := by decide +kernel
theorem d_Md_orderOf_29 : decode prog_14_method_54_code 29 = .ok (.iload_n 0, 1) := by decide +kernel
theorem d_Md_orderOf_30 : decode prog_14_method_54_code 30 = .ok (.iconst 4, 1) := by decide +kernel
theorem d_Md_orderOf_31 : decode prog_14_method_54_code 31 = .ok (.isub, 1) := by decide +kernel
theorem d_Md_orderOf_32 : decode prog_14_method_54_code 32 = .ok (.iconst 2, 1) := by decide +kernel
theorem d_Md_orderOf_33 : decode prog_14_method_54_code 33 = .ok (.idiv, 1) := by decide +kernel
theorem d_Md_orderOf_34 : decode prog_14_method_54_code 34 = .ok (.iadd, 1) := by decide +kernel
theorem d_Md_orderOf_35 : decode prog_14_method_54_code 35 = .ok (.goto 11, 3) := by decide +kernel
theorem d_Md_orderOf_38 : decode prog_14_method_54_code 38 = .ok (.bipush 7, 2) := by decide +kernel
theorem d_Md_orderOf_40 : decode prog_14_method_54_code 40 = .ok (.iload_n 0, 1) := by decide +kernel
theorem d_Md_orderOf_41 : decode prog_14_method_54_code 41 = .ok (.iconst 5, 1) := by decide +kernel
theorem d_Md_orderOf_42 : decode prog_14_method_54_code 42 = .ok (.isub, 1) := by decide +kernel
theorem d_Md_orderOf_43 : decode prog_14_method_54_code 43 = .ok (.iconst 2, 1) := by decide +kernel
theorem d_Md_orderOf_44 : decode prog_14_method_54_code 44 = .ok (.idiv, 1) := by decide +kernel
theorem d_Md_orderOf_45 : decode prog_14_method_54_code 45 = .ok (.isub, 1) := by decide +kernel
theorem d_Md_orderOf_46 : decode prog_14_method_54_code 46 = .ok (.ireturn, 1) := by decide +kernel
set_option maxRecDepth 100000 in
set_option maxHeartbeats 4000000 in
theorem c_Md_orderOf {l0 : Launch} (hl : l0.stackTraces = false) (n : Nat) (ids : List Nat)  (a0 : Int32) (σ : Mm) : kw_C l0 y_Md_orderOf (Cond.code y_Md_orderOf prog_14_method_54_code 1 (some .int) :: kw_Ts) rm_Md_orderOf kw_oi ids [] [.int a0] σ (F_Md_orderOf n a0 σ) := by
  refine kw_start (L0 := [some (.int a0)]) hl (by decide +kernel) (Nat.le_of_ble_eq_true rfl) rfl (fun Γ ad C Ce => ?_)
  unfold F_Md_orderOf
  refine kw_iload_n C d_Md_orderOf_0 rfl ?_
  refine kw_iconst (v := 3) C d_Md_orderOf_1 (by decide) ?_
  refine kw_j (α := Int32) (pcj := 46) (Lj := fun x2 => [none]) (stj := fun x2 => [.int x2]) (fun x2 σ3 => ?_) (fun k1 hk1 => ?_)
  · exact kw_iret C Ce rfl (by simp) (fun _ _ => rfl) (Nat.le_of_ble_eq_true rfl) (Nat.le_of_ble_eq_true rfl) rfl d_Md_orderOf_46
  · refine kw_icmp_ge (tgt := 12) C d_Md_orderOf_2 (by decide) ?_ ?_
    · refine kw_iload_n C d_Md_orderOf_12 rfl ?_
      refine kw_iconst (v := 3) C d_Md_orderOf_13 (by decide) ?_
      refine kw_icmp_ne (tgt := 21) C d_Md_orderOf_14 (by decide) ?_ ?_
      · refine kw_iload_n C d_Md_orderOf_21 rfl ?_
        refine kw_iconst (v := 2) C d_Md_orderOf_22 (by decide) ?_
        refine kw_irem C d_Md_orderOf_23 ?_
        refine kw_if_ne (tgt := 38) C d_Md_orderOf_24 (by decide) ?_ ?_
        · refine kw_bipush (v := 7) C d_Md_orderOf_38 (by decide) ?_
          refine kw_iload_n C d_Md_orderOf_40 rfl ?_
          refine kw_iconst (v := 5) C d_Md_orderOf_41 (by decide) ?_
          refine kw_isub C d_Md_orderOf_42 ?_
          refine kw_iconst (v := 2) C d_Md_orderOf_43 (by decide) ?_
          refine kw_idiv C d_Md_orderOf_44 ?_
          refine kw_isub C d_Md_orderOf_45 ?_
          exact kw_wk (hk1 ((7 : Int32) - ((a0 - 5) / 2)) σ) ⟨Or.inl rfl, trivial⟩
        · refine kw_bipush (v := 8) C d_Md_orderOf_27 (by decide) ?_
          refine kw_iload_n C d_Md_orderOf_29 rfl ?_
          refine kw_iconst (v := 4) C d_Md_orderOf_30 (by decide) ?_
          refine kw_isub C d_Md_orderOf_31 ?_
          refine kw_iconst (v := 2) C d_Md_orderOf_32 (by decide) ?_
          refine kw_idiv C d_Md_orderOf_33 ?_
          refine kw_iadd C d_Md_orderOf_34 ?_
          refine kw_goto (tgt := 46) C d_Md_orderOf_35 (by decide) ?_
          exact kw_wk (hk1 ((8 : Int32) + ((a0 - 4) / 2)) σ) ⟨Or.inl rfl, trivial⟩
      · refine kw_iconst (v := 0) C d_Md_orderOf_17 (by decide) ?_
        refine kw_goto (tgt := 46) C d_Md_orderOf_18 (by decide) ?_
        exact kw_wk (hk1 0 σ) ⟨Or.inl rfl, trivial⟩
    · refine kw_bipush (v := 16) C d_Md_orderOf_5 (by decide) ?_
      refine kw_iload_n C d_Md_orderOf_7 rfl ?_
      refine kw_iadd C d_Md_orderOf_8 ?_
      refine kw_goto (tgt := 46) C d_Md_orderOf_9 (by decide) ?_
      exact kw_wk (hk1 ((16 : Int32) + a0) σ) ⟨Or.inl rfl, trivial⟩
/-! Md_readSteps -/
def rm_Md_readSteps : Room := { frames := 4, cells := 0, slots := 0, locals := 96 }
def F_Md_readSteps (n : Nat) (t : Nat) (σ : Mm) : Option (Int32 × Mm) :=
kf_let ((gS σ (64 * t + 47)) + (gS σ (64 * t + 48)) : Int32) fun x1 =>
kf_l (α := Int32) n (fun k2 x3 σ4 =>
if x1 ≤ x3 then (
kf_z 1 (some (1, σ4))) else (
kf_c2 (F_Md_placeOf n t (gJ σ4 (64 * t + 43)) σ4) fun x5 σ6 =>
kf_c2 (F_Md_isCode n t 0 19 σ6) fun x7 σ8 =>
if x7 = 0 then (
kf_z 0 (some (0, σ8))) else (
kf_let (gS σ8 (64 * t + 49) : Int32) fun x9 =>
kf_j (α := Int32) (fun x11 σ12 =>
kf_c2 (F_Md_hasBits n t x11 σ12) fun x13 σ14 =>
if x13 = 0 then (
kf_z 0 (some (0, σ14))) else (
kf_j (α := Int32) (fun x16 σ17 =>
kf_j (α := Unit) (fun x19 σ20 =>
kf_c2 (F_Md_flaw n t 24 x5 σ20) fun x21 σ22 =>
kf_z x21 (some (x21, σ22))) fun k18 =>
kf_j (α := Unit) (fun x24 σ25 =>
if (x3 + x16) ≤ x1 then (
kf_j (α := Int32) (fun x27 σ28 =>
kf_l (α := Int32) n (fun k29 x30 σ31 =>
if x16 ≤ x30 then (
kf_let (x3 + x16 : Int32) fun x32 =>
k2 x32 σ31) else (
Option.bind (gR σ31 (64 * t + 46)) fun o33 =>
kf_in (x3 + x30) (mm_kd o33).2.2 <| kf_let (pB σ31 o33 (x3 + x30).toNatClampNeg x27) fun σ34 =>
kf_let (x30 + Int32.ofInt 1) fun x35 =>
k29 x35 σ34)) 0 σ28) fun k26 =>
if 16 ≤ x9 then (
if x9 = 16 then (
Option.bind (gR σ25 (64 * t + 46)) fun o36 =>
kf_let (x3 - 1 : Int32) fun x37 =>
kf_in x37 (mm_kd o36).2.2 <|
k26 (gB σ25 o36 x37.toNatClampNeg) σ25) else (
k26 0 σ25)) else (
k26 x9 σ25)) else (
k18 () σ25)) fun k23 =>
if x9 = 16 then (
if x3 = 0 then (
k18 () σ17) else (
k23 () σ17)) else (
k23 () σ17)) fun k15 =>
if 16 ≤ x9 then (
kf_j (α := Unit) (fun x39 σ40 =>
kf_c2 (F_Md_bits n t x11 σ40) fun x41 σ42 =>
k15 ((3 : Int32) + x41) σ42) fun k38 =>
if x9 = 16 then (
k38 () σ14) else (
if x9 = 17 then (
k38 () σ14) else (
kf_c2 (F_Md_bits n t x11 σ14) fun x43 σ44 =>
k15 ((11 : Int32) + x43) σ44))) else (
k15 1 σ14))) fun k10 =>
if 16 ≤ x9 then (
if x9 = 16 then (
k10 2 σ8) else (
if x9 = 17 then (
k10 3 σ8) else (
k10 7 σ8))) else (
k10 0 σ8)))) 0 σ
theorem d_Md_readSteps_0 : decode prog_14_method_56_code 0 = .ok (.iconst 0, 1) := by decide +kernel
theorem d_Md_readSteps_1 : decode prog_14_method_56_code 1 = .ok (.istore_n 1, 1) := by decide +kernel
theorem d_Md_readSteps_2 : decode prog_14_method_56_code 2 = .ok (.aload_n 0, 1) := by decide +kernel
theorem d_Md_readSteps_3 : decode prog_14_method_56_code 3 = .ok (.getfield 278, 3) := by decide +kernel
theorem d_Md_readSteps_6 : decode prog_14_method_56_code 6 = .ok (.aload_n 0, 1) := by decide +kernel
theorem d_Md_readSteps_7 : decode prog_14_method_56_code 7 = .ok (.getfield 281, 3) := by decide +kernel
theorem d_Md_readSteps_10 : decode prog_14_method_56_code 10 = .ok (.iadd, 1) := by decide +kernel
theorem d_Md_readSteps_11 : decode prog_14_method_56_code 11 = .ok (.istore_n 2, 1) := by decide +kernel
theorem d_Md_readSteps_12 : decode prog_14_method_56_code 12 = .ok (.iload_n 1, 1) := by decide +kernel
theorem d_Md_readSteps_13 : decode prog_14_method_56_code 13 = .ok (.iload_n 2, 1) := by decide +kernel
theorem d_Md_readSteps_14 : decode prog_14_method_56_code 14 = .ok (.if_icmp .ge 220, 3) := by decide +kernel
theorem d_Md_readSteps_17 : decode prog_14_method_56_code 17 = .ok (.aload_n 0, 1) := by decide +kernel
theorem d_Md_readSteps_18 : decode prog_14_method_56_code 18 = .ok (.aload_n 0, 1) := by decide +kernel
theorem d_Md_readSteps_19 : decode prog_14_method_56_code 19 = .ok (.getfield 201, 3) := by decide +kernel
theorem d_Md_readSteps_22 : decode prog_14_method_56_code 22 = .ok (.invokevirtual 236, 3) := by decide +kernel
theorem d_Md_readSteps_25 : decode prog_14_method_56_code 25 = .ok (.istore_n 3, 1) := by decide +kernel
theorem d_Md_readSteps_26 : decode prog_14_method_56_code 26 = .ok (.aload_n 0, 1) := by decide +kernel
theorem d_Md_readSteps_27 : decode prog_14_method_56_code 27 = .ok (.iconst 0, 1) := by decide +kernel
theorem d_Md_readSteps_28 : decode prog_14_method_56_code 28 = .ok (.bipush 19, 2) := by decide +kernel
theorem d_Md_readSteps_30 : decode prog_14_method_56_code 30 = .ok (.invokevirtual 284, 3) := by decide +kernel
theorem d_Md_readSteps_33 : decode prog_14_method_56_code 33 = .ok (.ifCond .ne 5, 3) := by decide +kernel
theorem d_Md_readSteps_36 : decode prog_14_method_56_code 36 = .ok (.iconst 0, 1) := by decide +kernel
theorem d_Md_readSteps_37 : decode prog_14_method_56_code 37 = .ok (.ireturn, 1) := by decide +kernel
theorem d_Md_readSteps_38 : decode prog_14_method_56_code 38 = .ok (.aload_n 0, 1) := by decide +kernel
theorem d_Md_readSteps_39 : decode prog_14_method_56_code 39 = .ok (.getfield 216, 3) := by decide +kernel
theorem d_Md_readSteps_42 : decode prog_14_method_56_code 42 = .ok (.istore 4, 2) := by decide +kernel
theorem d_Md_readSteps_44 : decode prog_14_method_56_code 44 = .ok (.iload 4, 2) := by decide +kernel
theorem d_Md_readSteps_46 : decode prog_14_method_56_code 46 = .ok (.bipush 16, 2) := by decide +kernel
theorem d_Md_readSteps_48 : decode prog_14_method_56_code 48 = .ok (.if_icmp .ge 7, 3) := by decide +kernel
theorem d_Md_readSteps_51 : decode prog_14_method_56_code 51 = .ok (.iconst 0, 1) := by decide +kernel
theorem d_Md_readSteps_52 : decode prog_14_method_56_code 52 = .ok (.goto 27, 3) := by decide +kernel
theorem d_Md_readSteps_55 : decode prog_14_method_56_code 55 = .ok (.iload 4, 2) := by decide +kernel
theorem d_Md_readSteps_57 : decode prog_14_method_56_code 57 = .ok (.bipush 16, 2) := by decide +kernel
theorem d_Md_readSteps_59 : decode prog_14_method_56_code 59 = .ok (.if_icmp .ne 7, 3) := by decide +kernel
theorem d_Md_readSteps_62 : decode prog_14_method_56_code 62 = .ok (.iconst 2, 1) := by decide +kernel
theorem d_Md_readSteps_63 : decode prog_14_method_56_code 63 = .ok (.goto 16, 3) := by decide +kernel
theorem d_Md_readSteps_66 : decode prog_14_method_56_code 66 = .ok (.iload 4, 2) := by decide +kernel
theorem d_Md_readSteps_68 : decode prog_14_method_56_code 68 = .ok (.bipush 17, 2) := by decide +kernel
theorem d_Md_readSteps_70 : decode prog_14_method_56_code 70 = .ok (.if_icmp .ne 7, 3) := by decide +kernel
theorem d_Md_readSteps_73 : decode prog_14_method_56_code 73 = .ok (.iconst 3, 1) := by decide +kernel
theorem d_Md_readSteps_74 : decode prog_14_method_56_code 74 = .ok (.goto 5, 3) := by decide +kernel
theorem d_Md_readSteps_77 : decode prog_14_method_56_code 77 = .ok (.bipush 7, 2) := by decide +kernel
theorem d_Md_readSteps_79 : decode prog_14_method_56_code 79 = .ok (.istore 5, 2) := by decide +kernel
theorem d_Md_readSteps_81 : decode prog_14_method_56_code 81 = .ok (.aload_n 0, 1) := by decide +kernel
theorem d_Md_readSteps_82 : decode prog_14_method_56_code 82 = .ok (.iload 5, 2) := by decide +kernel
theorem d_Md_readSteps_84 : decode prog_14_method_56_code 84 = .ok (.invokevirtual 223, 3) := by decide +kernel
theorem d_Md_readSteps_87 : decode prog_14_method_56_code 87 = .ok (.ifCond .ne 5, 3) := by decide +kernel
theorem d_Md_readSteps_90 : decode prog_14_method_56_code 90 = .ok (.iconst 0, 1) := by decide +kernel
theorem d_Md_readSteps_91 : decode prog_14_method_56_code 91 = .ok (.ireturn, 1) := by decide +kernel
theorem d_Md_readSteps_92 : decode prog_14_method_56_code 92 = .ok (.iload 4, 2) := by decide +kernel
theorem d_Md_readSteps_94 : decode prog_14_method_56_code 94 = .ok (.bipush 16, 2) := by decide +kernel
theorem d_Md_readSteps_96 : decode prog_14_method_56_code 96 = .ok (.if_icmp .ge 7, 3) := by decide +kernel
theorem d_Md_readSteps_99 : decode prog_14_method_56_code 99 = .ok (.iconst 1, 1) := by decide +kernel
theorem d_Md_readSteps_100 : decode prog_14_method_56_code 100 = .ok (.goto 37, 3) := by decide +kernel
theorem d_Md_readSteps_103 : decode prog_14_method_56_code 103 = .ok (.iload 4, 2) := by decide +kernel
theorem d_Md_readSteps_105 : decode prog_14_method_56_code 105 = .ok (.bipush 16, 2) := by decide +kernel
theorem d_Md_readSteps_107 : decode prog_14_method_56_code 107 = .ok (.if_icmp .eq 10, 3) := by decide +kernel
theorem d_Md_readSteps_110 : decode prog_14_method_56_code 110 = .ok (.iload 4, 2) := by decide +kernel
theorem d_Md_readSteps_112 : decode prog_14_method_56_code 112 = .ok (.bipush 17, 2) := by decide +kernel
theorem d_Md_readSteps_114 : decode prog_14_method_56_code 114 = .ok (.if_icmp .ne 14, 3) := by decide +kernel
theorem d_Md_readSteps_117 : decode prog_14_method_56_code 117 = .ok (.iconst 3, 1) := by decide +kernel
theorem d_Md_readSteps_118 : decode prog_14_method_56_code 118 = .ok (.aload_n 0, 1) := by decide +kernel
theorem d_Md_readSteps_119 : decode prog_14_method_56_code 119 = .ok (.iload 5, 2) := by decide +kernel
theorem d_Md_readSteps_121 : decode prog_14_method_56_code 121 = .ok (.invokevirtual 226, 3) := by decide +kernel
theorem d_Md_readSteps_124 : decode prog_14_method_56_code 124 = .ok (.iadd, 1) := by decide +kernel
theorem d_Md_readSteps_125 : decode prog_14_method_56_code 125 = .ok (.goto 12, 3) := by decide +kernel
theorem d_Md_readSteps_128 : decode prog_14_method_56_code 128 = .ok (.bipush 11, 2) := by decide +kernel
theorem d_Md_readSteps_130 : decode prog_14_method_56_code 130 = .ok (.aload_n 0, 1) := by decide +kernel
theorem d_Md_readSteps_131 : decode prog_14_method_56_code 131 = .ok (.iload 5, 2) := by decide +kernel
theorem d_Md_readSteps_133 : decode prog_14_method_56_code 133 = .ok (.invokevirtual 226, 3) := by decide +kernel
theorem d_Md_readSteps_136 : decode prog_14_method_56_code 136 = .ok (.iadd, 1) := by decide +kernel
theorem d_Md_readSteps_137 : decode prog_14_method_56_code 137 = .ok (.istore 6, 2) := by decide +kernel
theorem d_Md_readSteps_139 : decode prog_14_method_56_code 139 = .ok (.iload 4, 2) := by decide +kernel
theorem d_Md_readSteps_141 : decode prog_14_method_56_code 141 = .ok (.bipush 16, 2) := by decide +kernel
theorem d_Md_readSteps_143 : decode prog_14_method_56_code 143 = .ok (.if_icmp .ne 7, 3) := by decide +kernel
theorem d_Md_readSteps_146 : decode prog_14_method_56_code 146 = .ok (.iload_n 1, 1) := by decide +kernel
theorem d_Md_readSteps_147 : decode prog_14_method_56_code 147 = .ok (.ifCond .eq 11, 3) := by decide +kernel
theorem d_Md_readSteps_150 : decode prog_14_method_56_code 150 = .ok (.iload_n 1, 1) := by decide +kernel
theorem d_Md_readSteps_151 : decode prog_14_method_56_code 151 = .ok (.iload 6, 2) := by decide +kernel
theorem d_Md_readSteps_153 : decode prog_14_method_56_code 153 = .ok (.iadd, 1) := by decide +kernel
theorem d_Md_readSteps_154 : decode prog_14_method_56_code 154 = .ok (.iload_n 2, 1) := by decide +kernel
theorem d_Md_readSteps_155 : decode prog_14_method_56_code 155 = .ok (.if_icmp .le 11, 3) := by decide +kernel
theorem d_Md_readSteps_158 : decode prog_14_method_56_code 158 = .ok (.aload_n 0, 1) := by decide +kernel
theorem d_Md_readSteps_159 : decode prog_14_method_56_code 159 = .ok (.bipush 24, 2) := by decide +kernel
theorem d_Md_readSteps_161 : decode prog_14_method_56_code 161 = .ok (.iload_n 3, 1) := by decide +kernel
theorem d_Md_readSteps_162 : decode prog_14_method_56_code 162 = .ok (.invokevirtual 122, 3) := by decide +kernel
theorem d_Md_readSteps_165 : decode prog_14_method_56_code 165 = .ok (.ireturn, 1) := by decide +kernel
theorem d_Md_readSteps_166 : decode prog_14_method_56_code 166 = .ok (.iload 4, 2) := by decide +kernel
theorem d_Md_readSteps_168 : decode prog_14_method_56_code 168 = .ok (.bipush 16, 2) := by decide +kernel
theorem d_Md_readSteps_170 : decode prog_14_method_56_code 170 = .ok (.if_icmp .ge 8, 3) := by decide +kernel
theorem d_Md_readSteps_173 : decode prog_14_method_56_code 173 = .ok (.iload 4, 2) := by decide +kernel
theorem d_Md_readSteps_175 : decode prog_14_method_56_code 175 = .ok (.goto 22, 3) := by decide +kernel
theorem d_Md_readSteps_178 : decode prog_14_method_56_code 178 = .ok (.iload 4, 2) := by decide +kernel
theorem d_Md_readSteps_180 : decode prog_14_method_56_code 180 = .ok (.bipush 16, 2) := by decide +kernel
theorem d_Md_readSteps_182 : decode prog_14_method_56_code 182 = .ok (.if_icmp .ne 14, 3) := by decide +kernel
theorem d_Md_readSteps_185 : decode prog_14_method_56_code 185 = .ok (.aload_n 0, 1) := by decide +kernel
theorem d_Md_readSteps_186 : decode prog_14_method_56_code 186 = .ok (.getfield 61, 3) := by decide +kernel
theorem d_Md_readSteps_189 : decode prog_14_method_56_code 189 = .ok (.iload_n 1, 1) := by decide +kernel
theorem d_Md_readSteps_190 : decode prog_14_method_56_code 190 = .ok (.iconst 1, 1) := by decide +kernel
theorem d_Md_readSteps_191 : decode prog_14_method_56_code 191 = .ok (.isub, 1) := by decide +kernel
theorem d_Md_readSteps_192 : decode prog_14_method_56_code 192 = .ok (.iaload, 1) := by decide +kernel
theorem d_Md_readSteps_193 : decode prog_14_method_56_code 193 = .ok (.goto 4, 3) := by decide +kernel
theorem d_Md_readSteps_196 : decode prog_14_method_56_code 196 = .ok (.iconst 0, 1) := by decide +kernel
theorem d_Md_readSteps_197 : decode prog_14_method_56_code 197 = .ok (.istore 7, 2) := by decide +kernel
theorem d_Md_readSteps_199 : decode prog_14_method_56_code 199 = .ok (.iconst 0, 1) := by decide +kernel
theorem d_Md_readSteps_200 : decode prog_14_method_56_code 200 = .ok (.istore 8, 2) := by decide +kernel
theorem d_Md_readSteps_202 : decode prog_14_method_56_code 202 = .ok (.iload 8, 2) := by decide +kernel
theorem d_Md_readSteps_204 : decode prog_14_method_56_code 204 = .ok (.iload 6, 2) := by decide +kernel
theorem d_Md_readSteps_206 : decode prog_14_method_56_code 206 = .ok (.if_icmp .ge 20, 3) := by decide +kernel
theorem d_Md_readSteps_209 : decode prog_14_method_56_code 209 = .ok (.aload_n 0, 1) := by decide +kernel
theorem d_Md_readSteps_210 : decode prog_14_method_56_code 210 = .ok (.getfield 61, 3) := by decide +kernel
theorem d_Md_readSteps_213 : decode prog_14_method_56_code 213 = .ok (.iload_n 1, 1) := by decide +kernel
theorem d_Md_readSteps_214 : decode prog_14_method_56_code 214 = .ok (.iload 8, 2) := by decide +kernel
theorem d_Md_readSteps_216 : decode prog_14_method_56_code 216 = .ok (.iadd, 1) := by decide +kernel
theorem d_Md_readSteps_217 : decode prog_14_method_56_code 217 = .ok (.iload 7, 2) := by decide +kernel
theorem d_Md_readSteps_219 : decode prog_14_method_56_code 219 = .ok (.iastore, 1) := by decide +kernel
theorem d_Md_readSteps_220 : decode prog_14_method_56_code 220 = .ok (.iinc 8 1, 3) := by decide +kernel
theorem d_Md_readSteps_223 : decode prog_14_method_56_code 223 = .ok (.goto (-21), 3) := by decide +kernel
theorem d_Md_readSteps_226 : decode prog_14_method_56_code 226 = .ok (.iload_n 1, 1) := by decide +kernel
theorem d_Md_readSteps_227 : decode prog_14_method_56_code 227 = .ok (.iload 6, 2) := by decide +kernel
theorem d_Md_readSteps_229 : decode prog_14_method_56_code 229 = .ok (.iadd, 1) := by decide +kernel
theorem d_Md_readSteps_230 : decode prog_14_method_56_code 230 = .ok (.istore_n 1, 1) := by decide +kernel
theorem d_Md_readSteps_231 : decode prog_14_method_56_code 231 = .ok (.goto (-219), 3) := by decide +kernel
theorem d_Md_readSteps_234 : decode prog_14_method_56_code 234 = .ok (.iconst 1, 1) := by decide +kernel
theorem d_Md_readSteps_235 : decode prog_14_method_56_code 235 = .ok (.ireturn, 1) := by decide +kernel
set_option maxRecDepth 100000 in
set_option maxHeartbeats 4000000 in
theorem c_Md_readSteps {l0 : Launch} (hl : l0.stackTraces = false) (n : Nat) (ids : List Nat) {t : Nat} (ht : mm_ok ids t 1 12)  (σ : Mm) : kw_C l0 y_Md_readSteps (Cond.code y_Md_readSteps prog_14_method_56_code 9 (some .boolean) :: kw_Ts) rm_Md_readSteps kw_oi ids [] [.ref t] σ (F_Md_readSteps n t σ) := by
  refine kw_start (L0 := [some (.ref t), none, none, none, none, none, none, none, none]) hl (by decide +kernel) (Nat.le_of_ble_eq_true rfl) rfl (fun Γ ad C Ce => ?_)
  unfold F_Md_readSteps
  refine kw_iconst (v := 0) C d_Md_readSteps_0 (by decide) ?_
  refine kw_istore_n (L' := [some (.ref t), some (.int 0), none, none, none, none, none, none, none]) C d_Md_readSteps_1 (by decide) rfl ?_
  refine kw_aload_n C d_Md_readSteps_2 rfl ?_
  refine kw_getI C fi_Md_278 (Or.inl rfl) ht d_Md_readSteps_3 ?_
  refine kw_aload_n C d_Md_readSteps_6 rfl ?_
  refine kw_getI C fi_Md_281 (Or.inl rfl) ht d_Md_readSteps_7 ?_
  refine kw_iadd C d_Md_readSteps_10 ?_
  refine kw_leti (fun x1 => ?_)
  refine kw_istore_n (L' := [some (.ref t), some (.int 0), some (.int x1), none, none, none, none, none, none]) C d_Md_readSteps_11 (by decide) rfl ?_
  refine kw_wk (kw_l (α := Int32) (pc := 12) (Lj := fun x3 => [some (.ref t), some (.int x3), some (.int x1), none, none, none, none, none, none]) (stj := fun x3 => []) (fun k2 hk2 x3 σ4 => ?_) n 0 σ) ⟨Or.inr rfl, Or.inr rfl, Or.inr rfl, Or.inl rfl, Or.inl rfl, Or.inl rfl, Or.inl rfl, Or.inl rfl, Or.inl rfl, trivial⟩
  refine kw_iload_n C d_Md_readSteps_12 rfl ?_
  refine kw_iload_n C d_Md_readSteps_13 rfl ?_
  refine kw_icmp_ge (tgt := 234) C d_Md_readSteps_14 (by decide) ?_ ?_
  · refine kw_iconst (v := 1) C d_Md_readSteps_234 (by decide) ?_
    exact kw_zret C Ce rfl (by simp) (fun _ _ => rfl) (Nat.le_of_ble_eq_true rfl) (Nat.le_of_ble_eq_true rfl) rfl d_Md_readSteps_235
  · refine kw_aload_n C d_Md_readSteps_17 rfl ?_
    refine kw_aload_n C d_Md_readSteps_18 rfl ?_
    refine kw_getJ C fi_Md_201 rfl ht d_Md_readSteps_19 ?_
    refine kw_callVi (cl' := 0) (sl' := 0) (As := [.long (gJ σ4 (64 * t + 43))]) C (c_Md_placeOf hl n ids ht (gJ σ4 (64 * t + 43)) σ4) mi_Md_236 v_Md_placeOf ⟨_, _, rfl⟩ ht ⟨Nat.le_of_ble_eq_true rfl, Nat.le_of_ble_eq_true rfl⟩ (Nat.le_of_ble_eq_true rfl) ⟨Nat.le_of_ble_eq_true rfl, Nat.le_of_ble_eq_true rfl⟩ ⟨rfl, rfl⟩ rfl d_Md_readSteps_22 (fun x5 σ6 => ?_)
    refine kw_istore_n (L' := [some (.ref t), some (.int x3), some (.int x1), some (.int x5), none, none, none, none, none]) C d_Md_readSteps_25 (by decide) rfl ?_
    refine kw_aload_n C d_Md_readSteps_26 rfl ?_
    refine kw_iconst (v := 0) C d_Md_readSteps_27 (by decide) ?_
    refine kw_bipush (v := 19) C d_Md_readSteps_28 (by decide) ?_
    refine kw_callVi (cl' := 0) (sl' := 0) (As := [.int 0, .int 19]) C (c_Md_isCode hl n ids ht 0 19 σ6) mi_Md_284 v_Md_isCode ⟨_, _, rfl⟩ ht ⟨Nat.le_of_ble_eq_true rfl, Nat.le_of_ble_eq_true rfl⟩ (Nat.le_of_ble_eq_true rfl) ⟨Nat.le_of_ble_eq_true rfl, Nat.le_of_ble_eq_true rfl⟩ ⟨rfl, rfl⟩ rfl d_Md_readSteps_30 (fun x7 σ8 => ?_)
    refine kw_if_ne (tgt := 38) C d_Md_readSteps_33 (by decide) ?_ ?_
    · refine kw_aload_n C d_Md_readSteps_38 rfl ?_
      refine kw_getI C fi_Md_216 (Or.inl rfl) ht d_Md_readSteps_39 ?_
      refine kw_leti (fun x9 => ?_)
      refine kw_istore (L' := [some (.ref t), some (.int x3), some (.int x1), some (.int x5), some (.int x9), none, none, none, none]) C d_Md_readSteps_42 (by decide) rfl ?_
      refine kw_iload C d_Md_readSteps_44 rfl ?_
      refine kw_bipush (v := 16) C d_Md_readSteps_46 (by decide) ?_
      refine kw_j (α := Int32) (pcj := 79) (Lj := fun x11 => [some (.ref t), some (.int x3), some (.int x1), some (.int x5), some (.int x9), none, none, none, none]) (stj := fun x11 => [.int x11]) (fun x11 σ12 => ?_) (fun k10 hk10 => ?_)
      · refine kw_istore (L' := [some (.ref t), some (.int x3), some (.int x1), some (.int x5), some (.int x9), some (.int x11), none, none, none]) C d_Md_readSteps_79 (by decide) rfl ?_
        refine kw_aload_n C d_Md_readSteps_81 rfl ?_
        refine kw_iload C d_Md_readSteps_82 rfl ?_
        refine kw_callVi (cl' := 0) (sl' := 0) (As := [.int x11]) C (c_Md_hasBits hl n ids ht x11 σ12) mi_Md_223 v_Md_hasBits ⟨_, _, rfl⟩ ht ⟨Nat.le_of_ble_eq_true rfl, Nat.le_of_ble_eq_true rfl⟩ (Nat.le_of_ble_eq_true rfl) ⟨Nat.le_of_ble_eq_true rfl, Nat.le_of_ble_eq_true rfl⟩ ⟨rfl, rfl⟩ rfl d_Md_readSteps_84 (fun x13 σ14 => ?_)
        refine kw_if_ne (tgt := 92) C d_Md_readSteps_87 (by decide) ?_ ?_
        · refine kw_iload C d_Md_readSteps_92 rfl ?_
          refine kw_bipush (v := 16) C d_Md_readSteps_94 (by decide) ?_
          refine kw_j (α := Int32) (pcj := 137) (Lj := fun x16 => [some (.ref t), some (.int x3), some (.int x1), some (.int x5), some (.int x9), none, none, none, none]) (stj := fun x16 => [.int x16]) (fun x16 σ17 => ?_) (fun k15 hk15 => ?_)
          · refine kw_istore (L' := [some (.ref t), some (.int x3), some (.int x1), some (.int x5), some (.int x9), none, some (.int x16), none, none]) C d_Md_readSteps_137 (by decide) rfl ?_
            refine kw_iload C d_Md_readSteps_139 rfl ?_
            refine kw_bipush (v := 16) C d_Md_readSteps_141 (by decide) ?_
            refine kw_j (α := Unit) (pcj := 158) (Lj := fun x19 => [some (.ref t), none, none, some (.int x5), none, none, none, none, none]) (stj := fun x19 => []) (fun x19 σ20 => ?_) (fun k18 hk18 => ?_)
            · refine kw_aload_n C d_Md_readSteps_158 rfl ?_
              refine kw_bipush (v := 24) C d_Md_readSteps_159 (by decide) ?_
              refine kw_iload_n C d_Md_readSteps_161 rfl ?_
              refine kw_callVi (cl' := 0) (sl' := 0) (As := [.int 24, .int x5]) C (c_Md_flaw hl n ids ht 24 x5 σ20) mi_Md_122 v_Md_flaw ⟨_, _, rfl⟩ ht ⟨Nat.le_of_ble_eq_true rfl, Nat.le_of_ble_eq_true rfl⟩ (Nat.le_of_ble_eq_true rfl) ⟨Nat.le_of_ble_eq_true rfl, Nat.le_of_ble_eq_true rfl⟩ ⟨rfl, rfl⟩ rfl d_Md_readSteps_162 (fun x21 σ22 => ?_)
              exact kw_zret C Ce rfl (by simp) (fun _ _ => rfl) (Nat.le_of_ble_eq_true rfl) (Nat.le_of_ble_eq_true rfl) rfl d_Md_readSteps_165
            · refine kw_j (α := Unit) (pcj := 150) (Lj := fun x24 => [some (.ref t), some (.int x3), some (.int x1), some (.int x5), some (.int x9), none, some (.int x16), none, none]) (stj := fun x24 => []) (fun x24 σ25 => ?_) (fun k23 hk23 => ?_)
              · refine kw_iload_n C d_Md_readSteps_150 rfl ?_
                refine kw_iload C d_Md_readSteps_151 rfl ?_
                refine kw_iadd C d_Md_readSteps_153 ?_
                refine kw_iload_n C d_Md_readSteps_154 rfl ?_
                refine kw_icmp_le (tgt := 166) C d_Md_readSteps_155 (by decide) ?_ ?_
                · refine kw_iload C d_Md_readSteps_166 rfl ?_
                  refine kw_bipush (v := 16) C d_Md_readSteps_168 (by decide) ?_
                  refine kw_j (α := Int32) (pcj := 197) (Lj := fun x27 => [some (.ref t), some (.int x3), some (.int x1), none, none, none, some (.int x16), none, none]) (stj := fun x27 => [.int x27]) (fun x27 σ28 => ?_) (fun k26 hk26 => ?_)
                  · refine kw_istore (L' := [some (.ref t), some (.int x3), some (.int x1), none, none, none, some (.int x16), some (.int x27), none]) C d_Md_readSteps_197 (by decide) rfl ?_
                    refine kw_iconst (v := 0) C d_Md_readSteps_199 (by decide) ?_
                    refine kw_istore (L' := [some (.ref t), some (.int x3), some (.int x1), none, none, none, some (.int x16), some (.int x27), some (.int 0)]) C d_Md_readSteps_200 (by decide) rfl ?_
                    refine kw_wk (kw_l (α := Int32) (pc := 202) (Lj := fun x30 => [some (.ref t), some (.int x3), some (.int x1), none, none, none, some (.int x16), some (.int x27), some (.int x30)]) (stj := fun x30 => []) (fun k29 hk29 x30 σ31 => ?_) n 0 σ28) ⟨Or.inr rfl, Or.inr rfl, Or.inr rfl, Or.inl rfl, Or.inl rfl, Or.inl rfl, Or.inr rfl, Or.inr rfl, Or.inr rfl, trivial⟩
                    refine kw_iload C d_Md_readSteps_202 rfl ?_
                    refine kw_iload C d_Md_readSteps_204 rfl ?_
                    refine kw_icmp_ge (tgt := 226) C d_Md_readSteps_206 (by decide) ?_ ?_
                    · refine kw_iload_n C d_Md_readSteps_226 rfl ?_
                      refine kw_iload C d_Md_readSteps_227 rfl ?_
                      refine kw_iadd C d_Md_readSteps_229 ?_
                      refine kw_leti (fun x32 => ?_)
                      refine kw_istore_n (L' := [some (.ref t), some (.int x32), some (.int x1), none, none, none, some (.int x16), some (.int x27), some (.int x30)]) C d_Md_readSteps_230 (by decide) rfl ?_
                      refine kw_goto (tgt := 12) C d_Md_readSteps_231 (by decide) ?_
                      exact kw_wk (hk2 x32 σ31) ⟨Or.inr rfl, Or.inr rfl, Or.inr rfl, Or.inl rfl, Or.inl rfl, Or.inl rfl, Or.inl rfl, Or.inl rfl, Or.inl rfl, trivial⟩
                    · refine kw_aload_n C d_Md_readSteps_209 rfl ?_
                      refine kw_getR C fi_Md_61 rfl rfl ht d_Md_readSteps_210 (fun o33 ho33 => ?_)
                      refine kw_iload_n C d_Md_readSteps_213 rfl ?_
                      refine kw_iload C d_Md_readSteps_214 rfl ?_
                      refine kw_iadd C d_Md_readSteps_216 ?_
                      refine kw_iload C d_Md_readSteps_217 rfl ?_
                      refine kw_iast C ho33 d_Md_readSteps_219 (fun σ34 => ?_)
                      refine kw_iincL (L2 := fun x35 => [some (.ref t), some (.int x3), some (.int x1), none, none, none, some (.int x16), some (.int x27), some (.int x35)]) C d_Md_readSteps_220 (by decide) rfl (fun _ => rfl) (fun x35 => ?_)
                      refine kw_goto (tgt := 202) C d_Md_readSteps_223 (by decide) ?_
                      exact kw_wk (hk29 x35 σ34) ⟨Or.inr rfl, Or.inr rfl, Or.inr rfl, Or.inl rfl, Or.inl rfl, Or.inl rfl, Or.inr rfl, Or.inr rfl, Or.inr rfl, trivial⟩
                  · refine kw_icmp_ge (tgt := 178) C d_Md_readSteps_170 (by decide) ?_ ?_
                    · refine kw_iload C d_Md_readSteps_178 rfl ?_
                      refine kw_bipush (v := 16) C d_Md_readSteps_180 (by decide) ?_
                      refine kw_icmp_ne (tgt := 196) C d_Md_readSteps_182 (by decide) ?_ ?_
                      · refine kw_iconst (v := 0) C d_Md_readSteps_196 (by decide) ?_
                        exact kw_wk (hk26 0 σ25) ⟨Or.inr rfl, Or.inr rfl, Or.inr rfl, Or.inl rfl, Or.inl rfl, Or.inl rfl, Or.inr rfl, Or.inl rfl, Or.inl rfl, trivial⟩
                      · refine kw_aload_n C d_Md_readSteps_185 rfl ?_
                        refine kw_getR C fi_Md_61 rfl rfl ht d_Md_readSteps_186 (fun o36 ho36 => ?_)
                        refine kw_iload_n C d_Md_readSteps_189 rfl ?_
                        refine kw_iconst (v := 1) C d_Md_readSteps_190 (by decide) ?_
                        refine kw_isub C d_Md_readSteps_191 ?_
                        refine kw_leti (fun x37 => ?_)
                        refine kw_iald C (Or.inl ⟨ho36.1, ho36.2.1⟩) d_Md_readSteps_192 ?_
                        refine kw_goto (tgt := 197) C d_Md_readSteps_193 (by decide) ?_
                        exact kw_wk (hk26 (gB σ25 o36 x37.toNatClampNeg) σ25) ⟨Or.inr rfl, Or.inr rfl, Or.inr rfl, Or.inl rfl, Or.inl rfl, Or.inl rfl, Or.inr rfl, Or.inl rfl, Or.inl rfl, trivial⟩
                    · refine kw_iload C d_Md_readSteps_173 rfl ?_
                      refine kw_goto (tgt := 197) C d_Md_readSteps_175 (by decide) ?_
                      exact kw_wk (hk26 x9 σ25) ⟨Or.inr rfl, Or.inr rfl, Or.inr rfl, Or.inl rfl, Or.inl rfl, Or.inl rfl, Or.inr rfl, Or.inl rfl, Or.inl rfl, trivial⟩
                · exact kw_wk (hk18 () σ25) ⟨Or.inr rfl, Or.inl rfl, Or.inl rfl, Or.inr rfl, Or.inl rfl, Or.inl rfl, Or.inl rfl, Or.inl rfl, Or.inl rfl, trivial⟩
              · refine kw_icmp_ne (tgt := 150) C d_Md_readSteps_143 (by decide) ?_ ?_
                · exact kw_wk (hk23 () σ17) ⟨Or.inr rfl, Or.inr rfl, Or.inr rfl, Or.inr rfl, Or.inr rfl, Or.inl rfl, Or.inr rfl, Or.inl rfl, Or.inl rfl, trivial⟩
                · refine kw_iload_n C d_Md_readSteps_146 rfl ?_
                  refine kw_if_eq (tgt := 158) C d_Md_readSteps_147 (by decide) ?_ ?_
                  · exact kw_wk (hk18 () σ17) ⟨Or.inr rfl, Or.inl rfl, Or.inl rfl, Or.inr rfl, Or.inl rfl, Or.inl rfl, Or.inl rfl, Or.inl rfl, Or.inl rfl, trivial⟩
                  · exact kw_wk (hk23 () σ17) ⟨Or.inr rfl, Or.inr rfl, Or.inr rfl, Or.inr rfl, Or.inr rfl, Or.inl rfl, Or.inr rfl, Or.inl rfl, Or.inl rfl, trivial⟩
          · refine kw_icmp_ge (tgt := 103) C d_Md_readSteps_96 (by decide) ?_ ?_
            · refine kw_iload C d_Md_readSteps_103 rfl ?_
              refine kw_bipush (v := 16) C d_Md_readSteps_105 (by decide) ?_
              refine kw_j (α := Unit) (pcj := 117) (Lj := fun x39 => [some (.ref t), some (.int x3), some (.int x1), some (.int x5), some (.int x9), some (.int x11), none, none, none]) (stj := fun x39 => []) (fun x39 σ40 => ?_) (fun k38 hk38 => ?_)
              · refine kw_iconst (v := 3) C d_Md_readSteps_117 (by decide) ?_
                refine kw_aload_n C d_Md_readSteps_118 rfl ?_
                refine kw_iload C d_Md_readSteps_119 rfl ?_
                refine kw_callVi (cl' := 0) (sl' := 0) (As := [.int x11]) C (c_Md_bits hl n ids ht x11 σ40) mi_Md_226 v_Md_bits ⟨_, _, rfl⟩ ht ⟨Nat.le_of_ble_eq_true rfl, Nat.le_of_ble_eq_true rfl⟩ (Nat.le_of_ble_eq_true rfl) ⟨Nat.le_of_ble_eq_true rfl, Nat.le_of_ble_eq_true rfl⟩ ⟨rfl, rfl⟩ rfl d_Md_readSteps_121 (fun x41 σ42 => ?_)
                refine kw_iadd C d_Md_readSteps_124 ?_
                refine kw_goto (tgt := 137) C d_Md_readSteps_125 (by decide) ?_
                exact kw_wk (hk15 ((3 : Int32) + x41) σ42) ⟨Or.inr rfl, Or.inr rfl, Or.inr rfl, Or.inr rfl, Or.inr rfl, Or.inl rfl, Or.inl rfl, Or.inl rfl, Or.inl rfl, trivial⟩
              · refine kw_icmp_eq (tgt := 117) C d_Md_readSteps_107 (by decide) ?_ ?_
                · exact kw_wk (hk38 () σ14) ⟨Or.inr rfl, Or.inr rfl, Or.inr rfl, Or.inr rfl, Or.inr rfl, Or.inr rfl, Or.inl rfl, Or.inl rfl, Or.inl rfl, trivial⟩
                · refine kw_iload C d_Md_readSteps_110 rfl ?_
                  refine kw_bipush (v := 17) C d_Md_readSteps_112 (by decide) ?_
                  refine kw_icmp_ne (tgt := 128) C d_Md_readSteps_114 (by decide) ?_ ?_
                  · refine kw_bipush (v := 11) C d_Md_readSteps_128 (by decide) ?_
                    refine kw_aload_n C d_Md_readSteps_130 rfl ?_
                    refine kw_iload C d_Md_readSteps_131 rfl ?_
                    refine kw_callVi (cl' := 0) (sl' := 0) (As := [.int x11]) C (c_Md_bits hl n ids ht x11 σ14) mi_Md_226 v_Md_bits ⟨_, _, rfl⟩ ht ⟨Nat.le_of_ble_eq_true rfl, Nat.le_of_ble_eq_true rfl⟩ (Nat.le_of_ble_eq_true rfl) ⟨Nat.le_of_ble_eq_true rfl, Nat.le_of_ble_eq_true rfl⟩ ⟨rfl, rfl⟩ rfl d_Md_readSteps_133 (fun x43 σ44 => ?_)
                    refine kw_iadd C d_Md_readSteps_136 ?_
                    exact kw_wk (hk15 ((11 : Int32) + x43) σ44) ⟨Or.inr rfl, Or.inr rfl, Or.inr rfl, Or.inr rfl, Or.inr rfl, Or.inl rfl, Or.inl rfl, Or.inl rfl, Or.inl rfl, trivial⟩
                  · exact kw_wk (hk38 () σ14) ⟨Or.inr rfl, Or.inr rfl, Or.inr rfl, Or.inr rfl, Or.inr rfl, Or.inr rfl, Or.inl rfl, Or.inl rfl, Or.inl rfl, trivial⟩
            · refine kw_iconst (v := 1) C d_Md_readSteps_99 (by decide) ?_
              refine kw_goto (tgt := 137) C d_Md_readSteps_100 (by decide) ?_
              exact kw_wk (hk15 1 σ14) ⟨Or.inr rfl, Or.inr rfl, Or.inr rfl, Or.inr rfl, Or.inr rfl, Or.inl rfl, Or.inl rfl, Or.inl rfl, Or.inl rfl, trivial⟩
        · refine kw_iconst (v := 0) C d_Md_readSteps_90 (by decide) ?_
          exact kw_zret C Ce rfl (by simp) (fun _ _ => rfl) (Nat.le_of_ble_eq_true rfl) (Nat.le_of_ble_eq_true rfl) rfl d_Md_readSteps_91
      · refine kw_icmp_ge (tgt := 55) C d_Md_readSteps_48 (by decide) ?_ ?_
        · refine kw_iload C d_Md_readSteps_55 rfl ?_
          refine kw_bipush (v := 16) C d_Md_readSteps_57 (by decide) ?_
          refine kw_icmp_ne (tgt := 66) C d_Md_readSteps_59 (by decide) ?_ ?_
          · refine kw_iload C d_Md_readSteps_66 rfl ?_
            refine kw_bipush (v := 17) C d_Md_readSteps_68 (by decide) ?_
            refine kw_icmp_ne (tgt := 77) C d_Md_readSteps_70 (by decide) ?_ ?_
            · refine kw_bipush (v := 7) C d_Md_readSteps_77 (by decide) ?_
              exact kw_wk (hk10 7 σ8) ⟨Or.inr rfl, Or.inr rfl, Or.inr rfl, Or.inr rfl, Or.inr rfl, Or.inl rfl, Or.inl rfl, Or.inl rfl, Or.inl rfl, trivial⟩
            · refine kw_iconst (v := 3) C d_Md_readSteps_73 (by decide) ?_
              refine kw_goto (tgt := 79) C d_Md_readSteps_74 (by decide) ?_
              exact kw_wk (hk10 3 σ8) ⟨Or.inr rfl, Or.inr rfl, Or.inr rfl, Or.inr rfl, Or.inr rfl, Or.inl rfl, Or.inl rfl, Or.inl rfl, Or.inl rfl, trivial⟩
          · refine kw_iconst (v := 2) C d_Md_readSteps_62 (by decide) ?_
            refine kw_goto (tgt := 79) C d_Md_readSteps_63 (by decide) ?_
            exact kw_wk (hk10 2 σ8) ⟨Or.inr rfl, Or.inr rfl, Or.inr rfl, Or.inr rfl, Or.inr rfl, Or.inl rfl, Or.inl rfl, Or.inl rfl, Or.inl rfl, trivial⟩
        · refine kw_iconst (v := 0) C d_Md_readSteps_51 (by decide) ?_
          refine kw_goto (tgt := 79) C d_Md_readSteps_52 (by decide) ?_
          exact kw_wk (hk10 0 σ8) ⟨Or.inr rfl, Or.inr rfl, Or.inr rfl, Or.inr rfl, Or.inr rfl, Or.inl rfl, Or.inl rfl, Or.inl rfl, Or.inl rfl, trivial⟩
    · refine kw_iconst (v := 0) C d_Md_readSteps_36 (by decide) ?_
      exact kw_zret C Ce rfl (by simp) (fun _ _ => rfl) (Nat.le_of_ble_eq_true rfl) (Nat.le_of_ble_eq_true rfl) rfl d_Md_readSteps_37
