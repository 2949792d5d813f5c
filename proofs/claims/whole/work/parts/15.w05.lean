theorem mi_PF_163 : kw_mi "PictureFile" 163 y_PF_wantSample prog_1_method_21_code 4 none 3 := ⟨(kw_m4 (i := 133) (by decide +kernel) (by decide +kernel)), w_PF_wantSample, in_PF, by decide +kernel, by decide +kernel, by decide +kernel⟩
theorem v_PF_wantSample : Cond.instanceMethod y_PF_wantSample ∈ kw_Ts ∧ Cond.selects y_PF_wantSample.cls y_PF_wantSample y_PF_wantSample ∈ kw_Ts := ⟨(kw_m4 (i := 135) (by decide +kernel) (by decide +kernel)), (kw_sel (i := 24) (by decide +kernel) (by decide +kernel))⟩
theorem fi_PF_166 : kw_fi "PictureFile" 166 10 8 true := ⟨mmR_10, mmT_10, 12, rfl, rfl, by decide, mmI_10, mmY_10, mmN_10, rfl, (kw_m2 (i := 134) (by decide +kernel) (by decide +kernel))⟩
theorem mi_PF_170 : kw_mi "PictureFile" 170 y_Picture_indexOf prog_7_method_9_code 3 (some .int) 2 := ⟨(kw_m4 (i := 152) (by decide +kernel) (by decide +kernel)), w_Picture_indexOf, in_Picture, by decide +kernel, by decide +kernel, by decide +kernel⟩
def y_PF_sample : MethodName := ⟨"PictureFile", "sample", "(III)I"⟩
theorem w_PF_sample : Cond.code y_PF_sample prog_1_method_8_code 4 (some .int) ∈ kw_Ts := (kw_m4 (i := 132) (by decide +kernel) (by decide +kernel))
def y_Picture_isNumber : MethodName := ⟨"PictureFile$Picture", "isNumber", "(I)Z"⟩
theorem w_Picture_isNumber : Cond.code y_Picture_isNumber prog_7_method_13_code 2 (some .boolean) ∈ kw_Ts := (kw_m4 (i := 171) (by decide +kernel) (by decide +kernel))
theorem mi_Picture_64 : kw_mi "PictureFile$Picture" 64 y_Picture_isNumber prog_7_method_13_code 2 (some .boolean) 1 := ⟨(kw_m4 (i := 168) (by decide +kernel) (by decide +kernel)), w_Picture_isNumber, in_Picture, by decide +kernel, by decide +kernel, by decide +kernel⟩
theorem v_Picture_isNumber : Cond.instanceMethod y_Picture_isNumber ∈ kw_Ts ∧ Cond.selects y_Picture_isNumber.cls y_Picture_isNumber y_Picture_isNumber ∈ kw_Ts := ⟨(kw_m4 (i := 170) (by decide +kernel) (by decide +kernel)), (kw_sel (i := 26) (by decide +kernel) (by decide +kernel))⟩
def y_Picture_letsValue : MethodName := ⟨"PictureFile$Picture", "letsValue", "(I)Z"⟩
theorem w_Picture_letsValue : Cond.code y_Picture_letsValue prog_7_method_11_code 2 (some .boolean) ∈ kw_Ts := (kw_m4 (i := 167) (by decide +kernel) (by decide +kernel))
theorem mi_PF_236 : kw_mi "PictureFile" 236 y_Picture_letsValue prog_7_method_11_code 2 (some .boolean) 1 := ⟨(kw_m4 (i := 164) (by decide +kernel) (by decide +kernel)), w_Picture_letsValue, in_Picture, by decide +kernel, by decide +kernel, by decide +kernel⟩
theorem v_Picture_letsValue : Cond.instanceMethod y_Picture_letsValue ∈ kw_Ts ∧ Cond.selects y_Picture_letsValue.cls y_Picture_letsValue y_Picture_letsValue ∈ kw_Ts := ⟨(kw_m4 (i := 165) (by decide +kernel) (by decide +kernel)), (kw_m4 (i := 166) (by decide +kernel) (by decide +kernel))⟩
def y_PF_wantValue : MethodName := ⟨"PictureFile", "wantValue", "(I)V"⟩
theorem w_PF_wantValue : Cond.code y_PF_wantValue prog_1_method_22_code 2 none ∈ kw_Ts := (kw_m4 (i := 163) (by decide +kernel) (by decide +kernel))
theorem mi_PF_174 : kw_mi "PictureFile" 174 y_PF_wantValue prog_1_method_22_code 2 none 1 := ⟨(kw_m4 (i := 160) (by decide +kernel) (by decide +kernel)), w_PF_wantValue, in_PF, by decide +kernel, by decide +kernel, by decide +kernel⟩
theorem v_PF_wantValue : Cond.instanceMethod y_PF_wantValue ∈ kw_Ts ∧ Cond.selects y_PF_wantValue.cls y_PF_wantValue y_PF_wantValue ∈ kw_Ts := ⟨(kw_m4 (i := 162) (by decide +kernel) (by decide +kernel)), (kw_sel (i := 25) (by decide +kernel) (by decide +kernel))⟩
def y_PF_set : MethodName := ⟨"PictureFile", "set", "(IIII)V"⟩
theorem w_PF_set : Cond.code y_PF_set prog_1_method_9_code 5 none ∈ kw_Ts := (kw_m4 (i := 159) (by decide +kernel) (by decide +kernel))
def y_PF_fill : MethodName := ⟨"PictureFile", "fill", "(IIIIII)V"⟩
theorem w_PF_fill : Cond.code y_PF_fill prog_1_method_10_code 9 none ∈ kw_Ts := (kw_m4 (i := 178) (by decide +kernel) (by decide +kernel))
theorem mi_PF_180 : kw_mi "PictureFile" 180 y_Picture_mayHaveColours prog_7_method_5_code 1 (some .boolean) 1 := ⟨(kw_m4 (i := 186) (by decide +kernel) (by decide +kernel)), w_Picture_mayHaveColours, in_Picture, by decide +kernel, by decide +kernel, by decide +kernel⟩
theorem mi_PF_183 : kw_mi "PictureFile" 183 y_Picture_mostColours prog_7_method_10_code 1 (some .int) 0 := ⟨(kw_m4 (i := 187) (by decide +kernel) (by decide +kernel)), w_Picture_mostColours, in_Picture, by decide +kernel, by decide +kernel, by decide +kernel⟩
def y_PF_colour : MethodName := ⟨"PictureFile", "colour", "(III)I"⟩
theorem w_PF_colour : Cond.code y_PF_colour prog_1_method_11_code 4 (some .int) ∈ kw_Ts := (kw_m4 (i := 185) (by decide +kernel) (by decide +kernel))
theorem fi_PF_187 : kw_fi "PictureFile" 187 10 9 true := ⟨mmR_10, mmT_10, 12, rfl, rfl, by decide, mmI_10, mmY_10, mmN_10, rfl, (kw_m2 (i := 137) (by decide +kernel) (by decide +kernel))⟩
def y_PF_ofColour : MethodName := ⟨"PictureFile", "ofColour", "(II)I"⟩
theorem w_PF_ofColour : Cond.code y_PF_ofColour prog_1_method_12_code 3 (some .int) ∈ kw_Ts := (kw_m4 (i := 194) (by decide +kernel) (by decide +kernel))
def y_Picture_letsThin : MethodName := ⟨"PictureFile$Picture", "letsThin", "(III)Z"⟩
theorem w_Picture_letsThin : Cond.code y_Picture_letsThin prog_7_method_12_code 4 (some .boolean) ∈ kw_Ts := (kw_m4 (i := 205) (by decide +kernel) (by decide +kernel))
theorem mi_PF_190 : kw_mi "PictureFile" 190 y_Picture_letsThin prog_7_method_12_code 4 (some .boolean) 3 := ⟨(kw_m4 (i := 202) (by decide +kernel) (by decide +kernel)), w_Picture_letsThin, in_Picture, by decide +kernel, by decide +kernel, by decide +kernel⟩
theorem v_Picture_letsThin : Cond.instanceMethod y_Picture_letsThin ∈ kw_Ts ∧ Cond.selects y_Picture_letsThin.cls y_Picture_letsThin y_Picture_letsThin ∈ kw_Ts := ⟨(kw_m4 (i := 203) (by decide +kernel) (by decide +kernel)), (kw_m4 (i := 204) (by decide +kernel) (by decide +kernel))⟩
theorem mi_PF_194 : kw_mi "PictureFile" 194 y_Picture_addThin prog_7_method_15_code 2 none 1 := ⟨(kw_m4 (i := 206) (by decide +kernel) (by decide +kernel)), w_Picture_addThin, in_Picture, by decide +kernel, by decide +kernel, by decide +kernel⟩
def y_PF_thin : MethodName := ⟨"PictureFile", "thin", "(III)I"⟩
theorem w_PF_thin : Cond.code y_PF_thin prog_1_method_13_code 4 (some .int) ∈ kw_Ts := (kw_m4 (i := 201) (by decide +kernel) (by decide +kernel))
theorem fi_PF_197 : kw_fi "PictureFile" 197 10 10 true := ⟨mmR_10, mmT_10, 12, rfl, rfl, by decide, mmI_10, mmY_10, mmN_10, rfl, (kw_m2 (i := 140) (by decide +kernel) (by decide +kernel))⟩
def y_PF_ofThin : MethodName := ⟨"PictureFile", "ofThin", "(I)I"⟩
theorem w_PF_ofThin : Cond.code y_PF_ofThin prog_1_method_14_code 2 (some .int) ∈ kw_Ts := (kw_m4 (i := 213) (by decide +kernel) (by decide +kernel))
def y_Rows_putSample : MethodName := ⟨"PictureFile$Rows", "putSample", "(IIII)V"⟩
theorem w_Rows_putSample : Cond.code y_Rows_putSample prog_9_method_3_code 6 none ∈ kw_Ts := (kw_m4 (i := 228) (by decide +kernel) (by decide +kernel))
theorem mi_Rows_57 : kw_mi "PictureFile$Rows" 57 y_Rows_putSample prog_9_method_3_code 6 none 4 := ⟨(kw_m4 (i := 225) (by decide +kernel) (by decide +kernel)), w_Rows_putSample, in_Rows, by decide +kernel, by decide +kernel, by decide +kernel⟩
theorem v_Rows_putSample : Cond.instanceMethod y_Rows_putSample ∈ kw_Ts ∧ Cond.selects y_Rows_putSample.cls y_Rows_putSample y_Rows_putSample ∈ kw_Ts := ⟨(kw_m4 (i := 227) (by decide +kernel) (by decide +kernel)), (kw_sel (i := 27) (by decide +kernel) (by decide +kernel))⟩
def y_Rows_gather : MethodName := ⟨"PictureFile$Rows", "gather", "(LPictureFile$Picture;I)V"⟩
theorem w_Rows_gather : Cond.code y_Rows_gather prog_9_method_2_code 9 none ∈ kw_Ts := (kw_m4 (i := 224) (by decide +kernel) (by decide +kernel))
def y_Rows_cost : MethodName := ⟨"PictureFile$Rows", "cost", "(LPictureFile$Layout;II)I"⟩
theorem w_Rows_cost : Cond.code y_Rows_cost prog_9_method_7_code 8 (some .int) ∈ kw_Ts := (kw_m4 (i := 236) (by decide +kernel) (by decide +kernel))
theorem mi_Rows_65 : kw_mi "PictureFile$Rows" 65 y_Rows_cost prog_9_method_7_code 8 (some .int) 3 := ⟨(kw_m4 (i := 233) (by decide +kernel) (by decide +kernel)), w_Rows_cost, in_Rows, by decide +kernel, by decide +kernel, by decide +kernel⟩
theorem v_Rows_cost : Cond.instanceMethod y_Rows_cost ∈ kw_Ts ∧ Cond.selects y_Rows_cost.cls y_Rows_cost y_Rows_cost ∈ kw_Ts := ⟨(kw_m4 (i := 235) (by decide +kernel) (by decide +kernel)), (kw_sel (i := 28) (by decide +kernel) (by decide +kernel))⟩
def y_Rows_bestFilter : MethodName := ⟨"PictureFile$Rows", "bestFilter", "(LPictureFile$Layout;I)I"⟩
theorem w_Rows_bestFilter : Cond.code y_Rows_bestFilter prog_9_method_6_code 7 (some .int) ∈ kw_Ts := (kw_m4 (i := 232) (by decide +kernel) (by decide +kernel))
theorem fi_PF_200 : kw_fi "PictureFile" 200 11 9 true := ⟨mmR_11, mmT_11, 10, rfl, rfl, by decide, mmI_11, mmY_11, mmN_11, rfl, (kw_m2 (i := 77) (by decide +kernel) (by decide +kernel))⟩
theorem mi_PF_203 : kw_mi "PictureFile" 203 y_Rows_gather prog_9_method_2_code 9 none 2 := ⟨(kw_m4 (i := 221) (by decide +kernel) (by decide +kernel)), w_Rows_gather, in_Rows, by decide +kernel, by decide +kernel, by decide +kernel⟩
theorem v_Rows_gather : Cond.instanceMethod y_Rows_gather ∈ kw_Ts ∧ Cond.selects y_Rows_gather.cls y_Rows_gather y_Rows_gather ∈ kw_Ts := ⟨(kw_m4 (i := 222) (by decide +kernel) (by decide +kernel)), (kw_m4 (i := 223) (by decide +kernel) (by decide +kernel))⟩
theorem mi_PF_207 : kw_mi "PictureFile" 207 y_Rows_bestFilter prog_9_method_6_code 7 (some .int) 2 := ⟨(kw_m4 (i := 229) (by decide +kernel) (by decide +kernel)), w_Rows_bestFilter, in_Rows, by decide +kernel, by decide +kernel, by decide +kernel⟩
theorem v_Rows_bestFilter : Cond.instanceMethod y_Rows_bestFilter ∈ kw_Ts ∧ Cond.selects y_Rows_bestFilter.cls y_Rows_bestFilter y_Rows_bestFilter ∈ kw_Ts := ⟨(kw_m4 (i := 230) (by decide +kernel) (by decide +kernel)), (kw_m4 (i := 231) (by decide +kernel) (by decide +kernel))⟩
def y_PF_filter : MethodName := ⟨"PictureFile", "filter", "(I)I"⟩
theorem w_PF_filter : Cond.code y_PF_filter prog_1_method_15_code 2 (some .int) ∈ kw_Ts := (kw_m4 (i := 220) (by decide +kernel) (by decide +kernel))
theorem fi_Writer_7 : kw_fi "PictureFile$Writer" 7 8 0 true := ⟨mmR_8, mmT_8, 4, rfl, rfl, by decide, mmI_8, mmY_8, mmN_8, rfl, (kw_m2 (i := 30) (by decide +kernel) (by decide +kernel))⟩
theorem fi_Writer_32 : kw_fi "PictureFile$Writer" 32 1 1 false := ⟨mmR_1, mmT_1, 3, rfl, rfl, by decide, mmI_1, mmY_1, mmN_1, rfl, (kw_m1 (i := 48) (by decide +kernel) (by decide +kernel))⟩
theorem fi_Writer_128 : kw_fi "PictureFile$Writer" 128 8 3 false := ⟨mmR_8, mmT_8, 4, rfl, rfl, by decide, mmI_8, mmY_8, mmN_8, rfl, (kw_m2 (i := 33) (by decide +kernel) (by decide +kernel))⟩
theorem mi_Writer_97 : kw_mi "PictureFile$Writer" 97 y_Tape_addNumber prog_10_method_5_code 2 none 1 := ⟨(kw_m5 (i := 19) (by decide +kernel) (by decide +kernel)), w_Tape_addNumber, in_Tape, by decide +kernel, by decide +kernel, by decide +kernel⟩
def y_Writer_startPiece : MethodName := ⟨"PictureFile$Writer", "startPiece", "(I)V"⟩
theorem w_Writer_startPiece : Cond.code y_Writer_startPiece prog_12_method_7_code 2 none ∈ kw_Ts := (kw_m5 (i := 18) (by decide +kernel) (by decide +kernel))
def y_Tape_putNumber : MethodName := ⟨"PictureFile$Tape", "putNumber", "(II)V"⟩
theorem w_Tape_putNumber : Cond.code y_Tape_putNumber prog_10_method_6_code 3 none ∈ kw_Ts := (kw_m5 (i := 27) (by decide +kernel) (by decide +kernel))
/-! PF_sample -/
def rm_PF_sample : Room := { frames := 7, cells := 2, slots := 12, locals := 112 }
def F_PF_sample (n : Nat) (t : Nat) (a0 : Int32) (a1 : Int32) (a2 : Int32) (σ : Mm) : Option ((Int32 ⊕ String) × Mm) :=
kf_t (F_PF_wantPicture n t σ) fun _ σ1 =>
kf_t (F_PF_wantSample n t a0 a1 a2 σ1) fun _ σ2 =>
Option.bind (gR σ2 (64 * t + 6)) fun o3 =>
Option.bind (gR σ2 (64 * o3 + 8)) fun o4 =>
Option.bind (gR σ2 (64 * t + 6)) fun o5 =>
kf_c2 (F_Picture_indexOf n o5 a0 a1 σ2) fun x6 σ7 =>
kf_let (x6 + a2 : Int32) fun x8 =>
kf_in x8 (mm_kd o4).2.2 <|
some (.inl (gB σ7 o4 x8.toNatClampNeg), σ7)
theorem d_PF_sample_0 : decode prog_1_method_8_code 0 = .ok (.aload_n 0, 1) := by decide +kernel
theorem d_PF_sample_1 : decode prog_1_method_8_code 1 = .ok (.invokevirtual 136, 3) := by decide +kernel
theorem d_PF_sample_4 : decode prog_1_method_8_code 4 = .ok (.aload_n 0, 1) := by decide +kernel
theorem d_PF_sample_5 : decode prog_1_method_8_code 5 = .ok (.iload_n 1, 1) := by decide +kernel
theorem d_PF_sample_6 : decode prog_1_method_8_code 6 = .ok (.iload_n 2, 1) := by decide +kernel
theorem d_PF_sample_7 : decode prog_1_method_8_code 7 = .ok (.iload_n 3, 1) := by decide +kernel
theorem d_PF_sample_8 : decode prog_1_method_8_code 8 = .ok (.invokevirtual 163, 3) := by decide +kernel
theorem d_PF_sample_11 : decode prog_1_method_8_code 11 = .ok (.aload_n 0, 1) := by decide +kernel
theorem d_PF_sample_12 : decode prog_1_method_8_code 12 = .ok (.getfield 65, 3) := by decide +kernel
theorem d_PF_sample_15 : decode prog_1_method_8_code 15 = .ok (.getfield 166, 3) := by decide +kernel
theorem d_PF_sample_18 : decode prog_1_method_8_code 18 = .ok (.aload_n 0, 1) := by decide +kernel
theorem d_PF_sample_19 : decode prog_1_method_8_code 19 = .ok (.getfield 65, 3) := by decide +kernel
theorem d_PF_sample_22 : decode prog_1_method_8_code 22 = .ok (.iload_n 1, 1) := by decide +kernel
theorem d_PF_sample_23 : decode prog_1_method_8_code 23 = .ok (.iload_n 2, 1) := by decide +kernel
theorem d_PF_sample_24 : decode prog_1_method_8_code 24 = .ok (.invokevirtual 170, 3) := by decide +kernel
theorem d_PF_sample_27 : decode prog_1_method_8_code 27 = .ok (.iload_n 3, 1) := by decide +kernel
theorem d_PF_sample_28 : decode prog_1_method_8_code 28 = .ok (.iadd, 1) := by decide +kernel
theorem d_PF_sample_29 : decode prog_1_method_8_code 29 = .ok (.iaload, 1) := by decide +kernel
theorem d_PF_sample_30 : decode prog_1_method_8_code 30 = .ok (.ireturn, 1) := by decide +kernel
set_option maxRecDepth 100000 in
set_option maxHeartbeats 4000000 in
theorem c_PF_sample {l0 : Launch} (hl : l0.stackTraces = false) (n : Nat) (ids : List Nat) {t : Nat} (ht : mm_ok ids t 1 0) (a0 : Int32) (a1 : Int32) (a2 : Int32) (σ : Mm) : kw_C l0 y_PF_sample (Cond.code y_PF_sample prog_1_method_8_code 4 (some .int) :: kw_Ts) rm_PF_sample kw_oti ids [] [.ref t, .int a0, .int a1, .int a2] σ (F_PF_sample n t a0 a1 a2 σ) := by
  refine kw_start (L0 := [some (.ref t), some (.int a0), some (.int a1), some (.int a2)]) hl (by decide +kernel) (Nat.le_of_ble_eq_true rfl) rfl (fun Γ ad C Ce => ?_)
  unfold F_PF_sample
  refine kw_aload_n C d_PF_sample_0 rfl ?_
  refine kw_callVt (As := []) (cl' := 1) (sl' := 6) C Ce (fun _ _ => rfl) (c_PF_wantPicture hl n ids ht  σ) mi_PF_136 v_PF_wantPicture ⟨_, _, rfl⟩ ht ⟨Nat.le_of_ble_eq_true rfl, Nat.le_of_ble_eq_true rfl⟩ (Nat.le_of_ble_eq_true rfl) ⟨Nat.le_of_ble_eq_true rfl, Nat.le_of_ble_eq_true rfl⟩ ⟨rfl, rfl⟩ rfl (by simp) (fun _ _ => rfl) d_PF_sample_1 (fun _ σ1 => ?_)
  refine kw_aload_n C d_PF_sample_4 rfl ?_
  refine kw_iload_n C d_PF_sample_5 rfl ?_
  refine kw_iload_n C d_PF_sample_6 rfl ?_
  refine kw_iload_n C d_PF_sample_7 rfl ?_
  refine kw_callVt (As := [.int a0, .int a1, .int a2]) (cl' := 2) (sl' := 12) C Ce (fun _ _ => rfl) (c_PF_wantSample hl n ids ht a0 a1 a2 σ1) mi_PF_163 v_PF_wantSample ⟨_, _, rfl⟩ ht ⟨Nat.le_of_ble_eq_true rfl, Nat.le_of_ble_eq_true rfl⟩ (Nat.le_of_ble_eq_true rfl) ⟨Nat.le_of_ble_eq_true rfl, Nat.le_of_ble_eq_true rfl⟩ ⟨rfl, rfl⟩ rfl (by simp) (fun _ _ => rfl) d_PF_sample_8 (fun _ σ2 => ?_)
  refine kw_aload_n C d_PF_sample_11 rfl ?_
  refine kw_getR C fi_PF_65 rfl rfl ht d_PF_sample_12 (fun o3 ho3 => ?_)
  refine kw_getR C fi_PF_166 rfl rfl ho3 d_PF_sample_15 (fun o4 ho4 => ?_)
  refine kw_aload_n C d_PF_sample_18 rfl ?_
  refine kw_getR C fi_PF_65 rfl rfl ht d_PF_sample_19 (fun o5 ho5 => ?_)
  refine kw_iload_n C d_PF_sample_22 rfl ?_
  refine kw_iload_n C d_PF_sample_23 rfl ?_
  refine kw_callVi (cl' := 2) (sl' := 12) (As := [.int a0, .int a1]) C (c_Picture_indexOf hl n ids ho5 a0 a1 σ2) mi_PF_170 v_Picture_indexOf ⟨_, _, rfl⟩ ho5 ⟨Nat.le_of_ble_eq_true rfl, Nat.le_of_ble_eq_true rfl⟩ (Nat.le_of_ble_eq_true rfl) ⟨Nat.le_of_ble_eq_true rfl, Nat.le_of_ble_eq_true rfl⟩ ⟨rfl, rfl⟩ rfl d_PF_sample_24 (fun x6 σ7 => ?_)
  refine kw_iload_n C d_PF_sample_27 rfl ?_
  refine kw_iadd C d_PF_sample_28 ?_
  refine kw_leti (fun x8 => ?_)
  refine kw_iald C (Or.inl ⟨ho4.1, ho4.2.1⟩) d_PF_sample_29 ?_
  exact kw_iret C Ce rfl (by simp) (fun _ _ => rfl) (Nat.le_of_ble_eq_true rfl) (Nat.le_of_ble_eq_true rfl) rfl d_PF_sample_30
/-! Picture_isNumber -/
def rm_Picture_isNumber : Room := { frames := 0, cells := 0, slots := 0, locals := 0 }
def F_Picture_isNumber (n : Nat) (t : Nat) (a0 : Int32) (σ : Mm) : Option (Int32 × Mm) :=
kf_j (α := Int32) (fun x2 σ3 =>
kf_z x2 (some (x2, σ3))) fun k1 =>
kf_j (α := Unit) (fun x5 σ6 =>
k1 0 σ6) fun k4 =>
if a0 < 0 then (
k4 () σ) else (
if ((1 : Int32) <<< ((gS σ (64 * t + 3)) &&& 31)) ≤ a0 then (
k4 () σ) else (
k1 1 σ))
theorem d_Picture_isNumber_0 : decode prog_7_method_13_code 0 = .ok (.iload_n 1, 1) := by decide +kernel
theorem d_Picture_isNumber_1 : decode prog_7_method_13_code 1 = .ok (.ifCond .lt 17, 3) := by decide +kernel
theorem d_Picture_isNumber_4 : decode prog_7_method_13_code 4 = .ok (.iload_n 1, 1) := by decide +kernel
theorem d_Picture_isNumber_5 : decode prog_7_method_13_code 5 = .ok (.iconst 1, 1) := by decide +kernel
theorem d_Picture_isNumber_6 : decode prog_7_method_13_code 6 = .ok (.aload_n 0, 1) := by decide +kernel
theorem d_Picture_isNumber_7 : decode prog_7_method_13_code 7 = .ok (.getfield 40, 3) := by decide +kernel
theorem d_Picture_isNumber_10 : decode prog_7_method_13_code 10 = .ok (.ishl, 1) := by decide +kernel
theorem d_Picture_isNumber_11 : decode prog_7_method_13_code 11 = .ok (.if_icmp .ge 7, 3) := by decide +kernel
theorem d_Picture_isNumber_14 : decode prog_7_method_13_code 14 = .ok (.iconst 1, 1) := by decide +kernel
theorem d_Picture_isNumber_15 : decode prog_7_method_13_code 15 = .ok (.goto 4, 3) := by decide +kernel
theorem d_Picture_isNumber_18 : decode prog_7_method_13_code 18 = .ok (.iconst 0, 1) := by decide +kernel
theorem d_Picture_isNumber_19 : decode prog_7_method_13_code 19 = .ok (.ireturn, 1) := by decide +kernel
set_option maxRecDepth 100000 in
set_option maxHeartbeats 4000000 in
theorem c_Picture_isNumber {l0 : Launch} (hl : l0.stackTraces = false) (n : Nat) (ids : List Nat) {t : Nat} (ht : mm_ok ids t 1 10) (a0 : Int32) (σ : Mm) : kw_C l0 y_Picture_isNumber (Cond.code y_Picture_isNumber prog_7_method_13_code 2 (some .boolean) :: kw_Ts) rm_Picture_isNumber kw_oi ids [] [.ref t, .int a0] σ (F_Picture_isNumber n t a0 σ) := by
  refine kw_start (L0 := [some (.ref t), some (.int a0)]) hl (by decide +kernel) (Nat.le_of_ble_eq_true rfl) rfl (fun Γ ad C Ce => ?_)
  unfold F_Picture_isNumber
  refine kw_iload_n C d_Picture_isNumber_0 rfl ?_
  refine kw_j (α := Int32) (pcj := 19) (Lj := fun x2 => [none, none]) (stj := fun x2 => [.int x2]) (fun x2 σ3 => ?_) (fun k1 hk1 => ?_)
  · exact kw_zret C Ce rfl (by simp) (fun _ _ => rfl) (Nat.le_of_ble_eq_true rfl) (Nat.le_of_ble_eq_true rfl) rfl d_Picture_isNumber_19
  · refine kw_j (α := Unit) (pcj := 18) (Lj := fun x5 => [none, none]) (stj := fun x5 => []) (fun x5 σ6 => ?_) (fun k4 hk4 => ?_)
    · refine kw_iconst (v := 0) C d_Picture_isNumber_18 (by decide) ?_
      exact kw_wk (hk1 0 σ6) ⟨Or.inl rfl, Or.inl rfl, trivial⟩
    · refine kw_if_lt (tgt := 18) C d_Picture_isNumber_1 (by decide) ?_ ?_
      · exact kw_wk (hk4 () σ) ⟨Or.inl rfl, Or.inl rfl, trivial⟩
      · refine kw_iload_n C d_Picture_isNumber_4 rfl ?_
        refine kw_iconst (v := 1) C d_Picture_isNumber_5 (by decide) ?_
        refine kw_aload_n C d_Picture_isNumber_6 rfl ?_
        refine kw_getI C fi_Picture_40 (Or.inl rfl) ht d_Picture_isNumber_7 ?_
        refine kw_ishl C d_Picture_isNumber_10 ?_
        refine kw_icmp_ge (tgt := 18) C d_Picture_isNumber_11 (by decide) ?_ ?_
        · exact kw_wk (hk4 () σ) ⟨Or.inl rfl, Or.inl rfl, trivial⟩
        · refine kw_iconst (v := 1) C d_Picture_isNumber_14 (by decide) ?_
          refine kw_goto (tgt := 19) C d_Picture_isNumber_15 (by decide) ?_
          exact kw_wk (hk1 1 σ) ⟨Or.inl rfl, Or.inl rfl, trivial⟩
/-! Picture_letsValue -/
def rm_Picture_letsValue : Room := { frames := 1, cells := 0, slots := 0, locals := 21 }
def F_Picture_letsValue (n : Nat) (t : Nat) (a0 : Int32) (σ : Mm) : Option (Int32 × Mm) :=
kf_c2 (F_Picture_isNumber n t a0 σ) fun x1 σ2 =>
kf_j (α := Int32) (fun x4 σ5 =>
kf_z x4 (some (x4, σ5))) fun k3 =>
kf_j (α := Unit) (fun x7 σ8 =>
k3 0 σ8) fun k6 =>
if x1 = 0 then (
k6 () σ2) else (
kf_j (α := Unit) (fun x10 σ11 =>
k3 1 σ11) fun k9 =>
if (gS σ2 (64 * t + 2)) = 3 then (
if (gS σ2 (64 * t + 6)) ≤ a0 then (
k6 () σ2) else (
k9 () σ2)) else (
k9 () σ2))
theorem d_Picture_letsValue_0 : decode prog_7_method_11_code 0 = .ok (.aload_n 0, 1) := by decide +kernel
theorem d_Picture_letsValue_1 : decode prog_7_method_11_code 1 = .ok (.iload_n 1, 1) := by decide +kernel
theorem d_Picture_letsValue_2 : decode prog_7_method_11_code 2 = .ok (.invokevirtual 64, 3) := by decide +kernel
theorem d_Picture_letsValue_5 : decode prog_7_method_11_code 5 = .ok (.ifCond .eq 23, 3) := by decide +kernel
theorem d_Picture_letsValue_8 : decode prog_7_method_11_code 8 = .ok (.aload_n 0, 1) := by decide +kernel
theorem d_Picture_letsValue_9 : decode prog_7_method_11_code 9 = .ok (.getfield 37, 3) := by decide +kernel
theorem d_Picture_letsValue_12 : decode prog_7_method_11_code 12 = .ok (.iconst 3, 1) := by decide +kernel
theorem d_Picture_letsValue_13 : decode prog_7_method_11_code 13 = .ok (.if_icmp .ne 11, 3) := by decide +kernel
theorem d_Picture_letsValue_16 : decode prog_7_method_11_code 16 = .ok (.iload_n 1, 1) := by decide +kernel
theorem d_Picture_letsValue_17 : decode prog_7_method_11_code 17 = .ok (.aload_n 0, 1) := by decide +kernel
theorem d_Picture_letsValue_18 : decode prog_7_method_11_code 18 = .ok (.getfield 54, 3) := by decide +kernel
theorem d_Picture_letsValue_21 : decode prog_7_method_11_code 21 = .ok (.if_icmp .ge 7, 3) := by decide +kernel
theorem d_Picture_letsValue_24 : decode prog_7_method_11_code 24 = .ok (.iconst 1, 1) := by decide +kernel
theorem d_Picture_letsValue_25 : decode prog_7_method_11_code 25 = .ok (.goto 4, 3) := by decide +kernel
theorem d_Picture_letsValue_28 : decode prog_7_method_11_code 28 = .ok (.iconst 0, 1) := by decide +kernel
theorem d_Picture_letsValue_29 : decode prog_7_method_11_code 29 = .ok (.ireturn, 1) := by decide +kernel
set_option maxRecDepth 100000 in
set_option maxHeartbeats 4000000 in
theorem c_Picture_letsValue {l0 : Launch} (hl : l0.stackTraces = false) (n : Nat) (ids : List Nat) {t : Nat} (ht : mm_ok ids t 1 10) (a0 : Int32) (σ : Mm) : kw_C l0 y_Picture_letsValue (Cond.code y_Picture_letsValue prog_7_method_11_code 2 (some .boolean) :: kw_Ts) rm_Picture_letsValue kw_oi ids [] [.ref t, .int a0] σ (F_Picture_letsValue n t a0 σ) := by
  refine kw_start (L0 := [some (.ref t), some (.int a0)]) hl (by decide +kernel) (Nat.le_of_ble_eq_true rfl) rfl (fun Γ ad C Ce => ?_)
  unfold F_Picture_letsValue
  refine kw_aload_n C d_Picture_letsValue_0 rfl ?_
  refine kw_iload_n C d_Picture_letsValue_1 rfl ?_
  refine kw_callVi (cl' := 0) (sl' := 0) (As := [.int a0]) C (c_Picture_isNumber hl n ids ht a0 σ) mi_Picture_64 v_Picture_isNumber ⟨_, _, rfl⟩ ht ⟨Nat.le_of_ble_eq_true rfl, Nat.le_of_ble_eq_true rfl⟩ (Nat.le_of_ble_eq_true rfl) ⟨Nat.le_of_ble_eq_true rfl, Nat.le_of_ble_eq_true rfl⟩ ⟨rfl, rfl⟩ rfl d_Picture_letsValue_2 (fun x1 σ2 => ?_)
  refine kw_j (α := Int32) (pcj := 29) (Lj := fun x4 => [none, none]) (stj := fun x4 => [.int x4]) (fun x4 σ5 => ?_) (fun k3 hk3 => ?_)
  · exact kw_zret C Ce rfl (by simp) (fun _ _ => rfl) (Nat.le_of_ble_eq_true rfl) (Nat.le_of_ble_eq_true rfl) rfl d_Picture_letsValue_29
  · refine kw_j (α := Unit) (pcj := 28) (Lj := fun x7 => [none, none]) (stj := fun x7 => []) (fun x7 σ8 => ?_) (fun k6 hk6 => ?_)
    · refine kw_iconst (v := 0) C d_Picture_letsValue_28 (by decide) ?_
      exact kw_wk (hk3 0 σ8) ⟨Or.inl rfl, Or.inl rfl, trivial⟩
    · refine kw_if_eq (tgt := 28) C d_Picture_letsValue_5 (by decide) ?_ ?_
      · exact kw_wk (hk6 () σ2) ⟨Or.inl rfl, Or.inl rfl, trivial⟩
      · refine kw_aload_n C d_Picture_letsValue_8 rfl ?_
        refine kw_getI C fi_Picture_37 (Or.inl rfl) ht d_Picture_letsValue_9 ?_
        refine kw_iconst (v := 3) C d_Picture_letsValue_12 (by decide) ?_
        refine kw_j (α := Unit) (pcj := 24) (Lj := fun x10 => [none, none]) (stj := fun x10 => []) (fun x10 σ11 => ?_) (fun k9 hk9 => ?_)
        · refine kw_iconst (v := 1) C d_Picture_letsValue_24 (by decide) ?_
          refine kw_goto (tgt := 29) C d_Picture_letsValue_25 (by decide) ?_
          exact kw_wk (hk3 1 σ11) ⟨Or.inl rfl, Or.inl rfl, trivial⟩
        · refine kw_icmp_ne (tgt := 24) C d_Picture_letsValue_13 (by decide) ?_ ?_
          · exact kw_wk (hk9 () σ2) ⟨Or.inl rfl, Or.inl rfl, trivial⟩
          · refine kw_iload_n C d_Picture_letsValue_16 rfl ?_
            refine kw_aload_n C d_Picture_letsValue_17 rfl ?_
            refine kw_getI C fi_Picture_54 (Or.inl rfl) ht d_Picture_letsValue_18 ?_
            refine kw_icmp_ge (tgt := 28) C d_Picture_letsValue_21 (by decide) ?_ ?_
            · exact kw_wk (hk6 () σ2) ⟨Or.inl rfl, Or.inl rfl, trivial⟩
            · exact kw_wk (hk9 () σ2) ⟨Or.inl rfl, Or.inl rfl, trivial⟩
/-! PF_wantValue -/
def rm_PF_wantValue : Room := { frames := 6, cells := 1, slots := 6, locals := 89 }
def F_PF_wantValue (n : Nat) (t : Nat) (a0 : Int32) (σ : Mm) : Option ((Unit ⊕ String) × Mm) :=
Option.bind (gR σ (64 * t + 6)) fun o1 =>
kf_c2 (F_Picture_letsValue n o1 a0 σ) fun x2 σ3 =>
if x2 = 0 then (
some (.inr "java/lang/IllegalArgumentException", σ3)) else (
some (.inl (), σ3))
theorem d_PF_wantValue_0 : decode prog_1_method_22_code 0 = .ok (.aload_n 0, 1) := by decide +kernel
theorem d_PF_wantValue_1 : decode prog_1_method_22_code 1 = .ok (.getfield 65, 3) := by decide +kernel
theorem d_PF_wantValue_4 : decode prog_1_method_22_code 4 = .ok (.iload_n 1, 1) := by decide +kernel
theorem d_PF_wantValue_5 : decode prog_1_method_22_code 5 = .ok (.invokevirtual 236, 3) := by decide +kernel
theorem d_PF_wantValue_8 : decode prog_1_method_22_code 8 = .ok (.ifCond .ne 11, 3) := by decide +kernel
theorem d_PF_wantValue_11 : decode prog_1_method_22_code 11 = .ok (.new 88, 3) := by decide +kernel
theorem d_PF_wantValue_14 : decode prog_1_method_22_code 14 = .ok (.dup, 1) := by decide +kernel
theorem d_PF_wantValue_15 : decode prog_1_method_22_code 15 = .ok (.invokespecial 90, 3) := by decide +kernel
theorem d_PF_wantValue_18 : decode prog_1_method_22_code 18 = .ok (.athrow, 1) := by decide +kernel
theorem d_PF_wantValue_19 : decode prog_1_method_22_code 19 = .ok (.return_, 1) := by decide +kernel
set_option maxRecDepth 100000 in
set_option maxHeartbeats 4000000 in
theorem c_PF_wantValue {l0 : Launch} (hl : l0.stackTraces = false) (n : Nat) (ids : List Nat) {t : Nat} (ht : mm_ok ids t 1 0) (a0 : Int32) (σ : Mm) : kw_C l0 y_PF_wantValue (Cond.code y_PF_wantValue prog_1_method_22_code 2 none :: kw_Ts) rm_PF_wantValue kw_otv ids [] [.ref t, .int a0] σ (F_PF_wantValue n t a0 σ) := by
  refine kw_start (L0 := [some (.ref t), some (.int a0)]) hl (by decide +kernel) (Nat.le_of_ble_eq_true rfl) rfl (fun Γ ad C Ce => ?_)
  unfold F_PF_wantValue
  refine kw_aload_n C d_PF_wantValue_0 rfl ?_
  refine kw_getR C fi_PF_65 rfl rfl ht d_PF_wantValue_1 (fun o1 ho1 => ?_)
  refine kw_iload_n C d_PF_wantValue_4 rfl ?_
  refine kw_callVi (cl' := 0) (sl' := 0) (As := [.int a0]) C (c_Picture_letsValue hl n ids ho1 a0 σ) mi_PF_236 v_Picture_letsValue ⟨_, _, rfl⟩ ho1 ⟨Nat.le_of_ble_eq_true rfl, Nat.le_of_ble_eq_true rfl⟩ (Nat.le_of_ble_eq_true rfl) ⟨Nat.le_of_ble_eq_true rfl, Nat.le_of_ble_eq_true rfl⟩ ⟨rfl, rfl⟩ rfl d_PF_wantValue_5 (fun x2 σ3 => ?_)
  refine kw_if_ne (tgt := 19) C d_PF_wantValue_8 (by decide) ?_ ?_
  · exact kw_vret C Ce rfl (by simp) (fun _ _ => rfl) (Nat.le_of_ble_eq_true rfl) (Nat.le_of_ble_eq_true rfl) rfl d_PF_wantValue_19
  · exact kw_throw0 C Ce ti_PF_88_90 (by simp) (fun _ _ => rfl) (Nat.le_of_ble_eq_true rfl) (Nat.le_of_ble_eq_true rfl) (Nat.le_of_ble_eq_true rfl) (Nat.le_of_ble_eq_true rfl) d_PF_wantValue_11 d_PF_wantValue_14 d_PF_wantValue_15 d_PF_wantValue_18 rfl
/-! PF_set -/
def rm_PF_set : Room := { frames := 7, cells := 3, slots := 18, locals := 112 }
def F_PF_set (n : Nat) (t : Nat) (a0 : Int32) (a1 : Int32) (a2 : Int32) (a3 : Int32) (σ : Mm) : Option ((Unit ⊕ String) × Mm) :=
kf_t (F_PF_wantPicture n t σ) fun _ σ1 =>
kf_t (F_PF_wantSample n t a0 a1 a2 σ1) fun _ σ2 =>
kf_t (F_PF_wantValue n t a3 σ2) fun _ σ3 =>
Option.bind (gR σ3 (64 * t + 6)) fun o4 =>
Option.bind (gR σ3 (64 * o4 + 8)) fun o5 =>
Option.bind (gR σ3 (64 * t + 6)) fun o6 =>
kf_c2 (F_Picture_indexOf n o6 a0 a1 σ3) fun x7 σ8 =>
kf_in (x7 + a2) (mm_kd o5).2.2 <| kf_let (pB σ8 o5 (x7 + a2).toNatClampNeg a3) fun σ9 =>
some (.inl (), σ9)
theorem d_PF_set_0 : decode prog_1_method_9_code 0 = .ok (.aload_n 0, 1) := by decide +kernel
theorem d_PF_set_1 : decode prog_1_method_9_code 1 = .ok (.invokevirtual 136, 3) := by decide +kernel
theorem d_PF_set_4 : decode prog_1_method_9_code 4 = .ok (.aload_n 0, 1) := by decide +kernel
theorem d_PF_set_5 : decode prog_1_method_9_code 5 = .ok (.iload_n 1, 1) := by decide +kernel
theorem d_PF_set_6 : decode prog_1_method_9_code 6 = .ok (.iload_n 2, 1) := by decide +kernel
theorem d_PF_set_7 : decode prog_1_method_9_code 7 = .ok (.iload_n 3, 1) := by decide +kernel
theorem d_PF_set_8 : decode prog_1_method_9_code 8 = .ok (.invokevirtual 163, 3) := by decide +kernel
theorem d_PF_set_11 : decode prog_1_method_9_code 11 = .ok (.aload_n 0, 1) := by decide +kernel
theorem d_PF_set_12 : decode prog_1_method_9_code 12 = .ok (.iload 4, 2) := by decide +kernel
theorem d_PF_set_14 : decode prog_1_method_9_code 14 = .ok (.invokevirtual 174, 3) := by decide +kernel
theorem d_PF_set_17 : decode prog_1_method_9_code 17 = .ok (.aload_n 0, 1) := by decide +kernel
theorem d_PF_set_18 : decode prog_1_method_9_code 18 = .ok (.getfield 65, 3) := by decide +kernel
theorem d_PF_set_21 : decode prog_1_method_9_code 21 = .ok (.getfield 166, 3) := by decide +kernel
theorem d_PF_set_24 : decode prog_1_method_9_code 24 = .ok (.aload_n 0, 1) := by decide +kernel
theorem d_PF_set_25 : decode prog_1_method_9_code 25 = .ok (.getfield 65, 3) := by decide +kernel
theorem d_PF_set_28 : decode prog_1_method_9_code 28 = .ok (.iload_n 1, 1) := by decide +kernel
theorem d_PF_set_29 : decode prog_1_method_9_code 29 = .ok (.iload_n 2, 1) := by decide +kernel
theorem d_PF_set_30 : decode prog_1_method_9_code 30 = .ok (.invokevirtual 170, 3) := by decide +kernel
theorem d_PF_set_33 : decode prog_1_method_9_code 33 = .ok (.iload_n 3, 1) := by decide +kernel
theorem d_PF_set_34 : decode prog_1_method_9_code 34 = .ok (.iadd, 1) := by decide +kernel
theorem d_PF_set_35 : decode prog_1_method_9_code 35 = .ok (.iload 4, 2) := by decide +kernel
theorem d_PF_set_37 : decode prog_1_method_9_code 37 = .ok (.iastore, 1) := by decide +kernel
theorem d_PF_set_38 : decode prog_1_method_9_code 38 = .ok (.return_, 1) := by decide +kernel
set_option maxRecDepth 100000 in
set_option maxHeartbeats 4000000 in
theorem c_PF_set {l0 : Launch} (hl : l0.stackTraces = false) (n : Nat) (ids : List Nat) {t : Nat} (ht : mm_ok ids t 1 0) (a0 : Int32) (a1 : Int32) (a2 : Int32) (a3 : Int32) (σ : Mm) : kw_C l0 y_PF_set (Cond.code y_PF_set prog_1_method_9_code 5 none :: kw_Ts) rm_PF_set kw_otv ids [] [.ref t, .int a0, .int a1, .int a2, .int a3] σ (F_PF_set n t a0 a1 a2 a3 σ) := by
  refine kw_start (L0 := [some (.ref t), some (.int a0), some (.int a1), some (.int a2), some (.int a3)]) hl (by decide +kernel) (Nat.le_of_ble_eq_true rfl) rfl (fun Γ ad C Ce => ?_)
  unfold F_PF_set
  refine kw_aload_n C d_PF_set_0 rfl ?_
  refine kw_callVt (As := []) (cl' := 1) (sl' := 6) C Ce (fun _ _ => rfl) (c_PF_wantPicture hl n ids ht  σ) mi_PF_136 v_PF_wantPicture ⟨_, _, rfl⟩ ht ⟨Nat.le_of_ble_eq_true rfl, Nat.le_of_ble_eq_true rfl⟩ (Nat.le_of_ble_eq_true rfl) ⟨Nat.le_of_ble_eq_true rfl, Nat.le_of_ble_eq_true rfl⟩ ⟨rfl, rfl⟩ rfl (by simp) (fun _ _ => rfl) d_PF_set_1 (fun _ σ1 => ?_)
  refine kw_aload_n C d_PF_set_4 rfl ?_
  refine kw_iload_n C d_PF_set_5 rfl ?_
  refine kw_iload_n C d_PF_set_6 rfl ?_
  refine kw_iload_n C d_PF_set_7 rfl ?_
  refine kw_callVt (As := [.int a0, .int a1, .int a2]) (cl' := 2) (sl' := 12) C Ce (fun _ _ => rfl) (c_PF_wantSample hl n ids ht a0 a1 a2 σ1) mi_PF_163 v_PF_wantSample ⟨_, _, rfl⟩ ht ⟨Nat.le_of_ble_eq_true rfl, Nat.le_of_ble_eq_true rfl⟩ (Nat.le_of_ble_eq_true rfl) ⟨Nat.le_of_ble_eq_true rfl, Nat.le_of_ble_eq_true rfl⟩ ⟨rfl, rfl⟩ rfl (by simp) (fun _ _ => rfl) d_PF_set_8 (fun _ σ2 => ?_)
  refine kw_aload_n C d_PF_set_11 rfl ?_
  refine kw_iload C d_PF_set_12 rfl ?_
  refine kw_callVt (As := [.int a3]) (cl' := 3) (sl' := 18) C Ce (fun _ _ => rfl) (c_PF_wantValue hl n ids ht a3 σ2) mi_PF_174 v_PF_wantValue ⟨_, _, rfl⟩ ht ⟨Nat.le_of_ble_eq_true rfl, Nat.le_of_ble_eq_true rfl⟩ (Nat.le_of_ble_eq_true rfl) ⟨Nat.le_of_ble_eq_true rfl, Nat.le_of_ble_eq_true rfl⟩ ⟨rfl, rfl⟩ rfl (by simp) (fun _ _ => rfl) d_PF_set_14 (fun _ σ3 => ?_)
  refine kw_aload_n C d_PF_set_17 rfl ?_
  refine kw_getR C fi_PF_65 rfl rfl ht d_PF_set_18 (fun o4 ho4 => ?_)
  refine kw_getR C fi_PF_166 rfl rfl ho4 d_PF_set_21 (fun o5 ho5 => ?_)
  refine kw_aload_n C d_PF_set_24 rfl ?_
  refine kw_getR C fi_PF_65 rfl rfl ht d_PF_set_25 (fun o6 ho6 => ?_)
  refine kw_iload_n C d_PF_set_28 rfl ?_
  refine kw_iload_n C d_PF_set_29 rfl ?_
  refine kw_callVi (cl' := 3) (sl' := 18) (As := [.int a0, .int a1]) C (c_Picture_indexOf hl n ids ho6 a0 a1 σ3) mi_PF_170 v_Picture_indexOf ⟨_, _, rfl⟩ ho6 ⟨Nat.le_of_ble_eq_true rfl, Nat.le_of_ble_eq_true rfl⟩ (Nat.le_of_ble_eq_true rfl) ⟨Nat.le_of_ble_eq_true rfl, Nat.le_of_ble_eq_true rfl⟩ ⟨rfl, rfl⟩ rfl d_PF_set_30 (fun x7 σ8 => ?_)
  refine kw_iload_n C d_PF_set_33 rfl ?_
  refine kw_iadd C d_PF_set_34 ?_
  refine kw_iload C d_PF_set_35 rfl ?_
  refine kw_iast C ho5 d_PF_set_37 (fun σ9 => ?_)
  exact kw_vret C Ce rfl (by simp) (fun _ _ => rfl) (Nat.le_of_ble_eq_true rfl) (Nat.le_of_ble_eq_true rfl) rfl d_PF_set_38
/-! PF_fill -/
def rm_PF_fill : Room := { frames := 7, cells := 4, slots := 24, locals := 112 }
def F_PF_fill (n : Nat) (t : Nat) (a0 : Int32) (a1 : Int32) (a2 : Int32) (a3 : Int32) (a4 : Int32) (a5 : Int32) (σ : Mm) : Option ((Unit ⊕ String) × Mm) :=
kf_t (F_PF_wantPicture n t σ) fun _ σ1 =>
kf_t (F_PF_wantSample n t a0 a1 a4 σ1) fun _ σ2 =>
kf_j (α := Unit) (fun x4 σ5 =>
some (.inr "java/lang/IndexOutOfBoundsException", σ5)) fun k3 =>
if a2 < 1 then (
k3 () σ2) else (
if a3 < 1 then (
k3 () σ2) else (
Option.bind (gR σ2 (64 * t + 6)) fun o6 =>
if ((gS σ2 (64 * o6 + 0)) - a0) < a2 then (
k3 () σ2) else (
Option.bind (gR σ2 (64 * t + 6)) fun o7 =>
if a3 ≤ ((gS σ2 (64 * o7 + 1)) - a1) then (
kf_t (F_PF_wantValue n t a5 σ2) fun _ σ8 =>
kf_l (α := Int32) n (fun k9 x10 σ11 =>
if a3 ≤ x10 then (
some (.inl (), σ11)) else (
kf_l (α := Int32) n (fun k12 x13 σ14 =>
if a2 ≤ x13 then (
kf_let (x10 + Int32.ofInt 1) fun x15 =>
k9 x15 σ14) else (
Option.bind (gR σ14 (64 * t + 6)) fun o16 =>
Option.bind (gR σ14 (64 * o16 + 8)) fun o17 =>
Option.bind (gR σ14 (64 * t + 6)) fun o18 =>
kf_c2 (F_Picture_indexOf n o18 (a0 + x13) (a1 + x10) σ14) fun x19 σ20 =>
kf_in (x19 + a4) (mm_kd o17).2.2 <| kf_let (pB σ20 o17 (x19 + a4).toNatClampNeg a5) fun σ21 =>
kf_let (x13 + Int32.ofInt 1) fun x22 =>
k12 x22 σ21)) 0 σ11)) 0 σ8) else (
k3 () σ2))))
theorem d_PF_fill_0 : decode prog_1_method_10_code 0 = .ok (.aload_n 0, 1) := by decide +kernel
theorem d_PF_fill_1 : decode prog_1_method_10_code 1 = .ok (.invokevirtual 136, 3) := by decide +kernel
theorem d_PF_fill_4 : decode prog_1_method_10_code 4 = .ok (.aload_n 0, 1) := by decide +kernel
theorem d_PF_fill_5 : decode prog_1_method_10_code 5 = .ok (.iload_n 1, 1) := by decide +kernel
theorem d_PF_fill_6 : decode prog_1_method_10_code 6 = .ok (.iload_n 2, 1) := by decide +kernel
theorem d_PF_fill_7 : decode prog_1_method_10_code 7 = .ok (.iload 5, 2) := by decide +kernel
theorem d_PF_fill_9 : decode prog_1_method_10_code 9 = .ok (.invokevirtual 163, 3) := by decide +kernel
theorem d_PF_fill_12 : decode prog_1_method_10_code 12 = .ok (.iload_n 3, 1) := by decide +kernel
theorem d_PF_fill_13 : decode prog_1_method_10_code 13 = .ok (.iconst 1, 1) := by decide +kernel
theorem d_PF_fill_14 : decode prog_1_method_10_code 14 = .ok (.if_icmp .lt 36, 3) := by decide +kernel
theorem d_PF_fill_17 : decode prog_1_method_10_code 17 = .ok (.iload 4, 2) := by decide +kernel
theorem d_PF_fill_19 : decode prog_1_method_10_code 19 = .ok (.iconst 1, 1) := by decide +kernel
theorem d_PF_fill_20 : decode prog_1_method_10_code 20 = .ok (.if_icmp .lt 30, 3) := by decide +kernel
theorem d_PF_fill_23 : decode prog_1_method_10_code 23 = .ok (.iload_n 3, 1) := by decide +kernel
theorem d_PF_fill_24 : decode prog_1_method_10_code 24 = .ok (.aload_n 0, 1) := by decide +kernel
theorem d_PF_fill_25 : decode prog_1_method_10_code 25 = .ok (.getfield 65, 3) := by decide +kernel
theorem d_PF_fill_28 : decode prog_1_method_10_code 28 = .ok (.getfield 139, 3) := by decide +kernel
theorem d_PF_fill_31 : decode prog_1_method_10_code 31 = .ok (.iload_n 1, 1) := by decide +kernel
theorem d_PF_fill_32 : decode prog_1_method_10_code 32 = .ok (.isub, 1) := by decide +kernel
theorem d_PF_fill_33 : decode prog_1_method_10_code 33 = .ok (.if_icmp .gt 17, 3) := by decide +kernel
theorem d_PF_fill_36 : decode prog_1_method_10_code 36 = .ok (.iload 4, 2) := by decide +kernel
theorem d_PF_fill_38 : decode prog_1_method_10_code 38 = .ok (.aload_n 0, 1) := by decide +kernel
theorem d_PF_fill_39 : decode prog_1_method_10_code 39 = .ok (.getfield 65, 3) := by decide +kernel
theorem d_PF_fill_42 : decode prog_1_method_10_code 42 = .ok (.getfield 142, 3) := by decide +kernel
theorem d_PF_fill_45 : decode prog_1_method_10_code 45 = .ok (.iload_n 2, 1) := by decide +kernel
theorem d_PF_fill_46 : decode prog_1_method_10_code 46 = .ok (.isub, 1) := by decide +kernel
theorem d_PF_fill_47 : decode prog_1_method_10_code 47 = .ok (.if_icmp .le 11, 3) := by decide +kernel
theorem d_PF_fill_50 : decode prog_1_method_10_code 50 = .ok (.new 177, 3) := by decide +kernel
theorem d_PF_fill_53 : decode prog_1_method_10_code 53 = .ok (.dup, 1) := by decide +kernel
theorem d_PF_fill_54 : decode prog_1_method_10_code 54 = .ok (.invokespecial 179, 3) := by decide +kernel
theorem d_PF_fill_57 : decode prog_1_method_10_code 57 = .ok (.athrow, 1) := by decide +kernel
theorem d_PF_fill_58 : decode prog_1_method_10_code 58 = .ok (.aload_n 0, 1) := by decide +kernel
theorem d_PF_fill_59 : decode prog_1_method_10_code 59 = .ok (.iload 6, 2) := by decide +kernel
theorem d_PF_fill_61 : decode prog_1_method_10_code 61 = .ok (.invokevirtual 174, 3) := by decide +kernel
theorem d_PF_fill_64 : decode prog_1_method_10_code 64 = .ok (.iconst 0, 1) := by decide +kernel
theorem d_PF_fill_65 : decode prog_1_method_10_code 65 = .ok (.istore 7, 2) := by decide +kernel
theorem d_PF_fill_67 : decode prog_1_method_10_code 67 = .ok (.iload 7, 2) := by decide +kernel
theorem d_PF_fill_69 : decode prog_1_method_10_code 69 = .ok (.iload 4, 2) := by decide +kernel
theorem d_PF_fill_71 : decode prog_1_method_10_code 71 = .ok (.if_icmp .ge 52, 3) := by decide +kernel
theorem d_PF_fill_74 : decode prog_1_method_10_code 74 = .ok (.iconst 0, 1) := by decide +kernel
theorem d_PF_fill_75 : decode prog_1_method_10_code 75 = .ok (.istore 8, 2) := by decide +kernel
theorem d_PF_fill_77 : decode prog_1_method_10_code 77 = .ok (.iload 8, 2) := by decide +kernel
theorem d_PF_fill_79 : decode prog_1_method_10_code 79 = .ok (.iload_n 3, 1) := by decide +kernel
theorem d_PF_fill_80 : decode prog_1_method_10_code 80 = .ok (.if_icmp .ge 37, 3) := by decide +kernel
theorem d_PF_fill_83 : decode prog_1_method_10_code 83 = .ok (.aload_n 0, 1) := by decide +kernel
theorem d_PF_fill_84 : decode prog_1_method_10_code 84 = .ok (.getfield 65, 3) := by decide +kernel
theorem d_PF_fill_87 : decode prog_1_method_10_code 87 = .ok (.getfield 166, 3) := by decide +kernel
theorem d_PF_fill_90 : decode prog_1_method_10_code 90 = .ok (.aload_n 0, 1) := by decide +kernel
theorem d_PF_fill_91 : decode prog_1_method_10_code 91 = .ok (.getfield 65, 3) := by decide +kernel
theorem d_PF_fill_94 : decode prog_1_method_10_code 94 = .ok (.iload_n 1, 1) := by decide +kernel
theorem d_PF_fill_95 : decode prog_1_method_10_code 95 = .ok (.iload 8, 2) := by decide +kernel
theorem d_PF_fill_97 : decode prog_1_method_10_code 97 = .ok (.iadd, 1) := by decide +kernel
theorem d_PF_fill_98 : decode prog_1_method_10_code 98 = .ok (.iload_n 2, 1) := by decide +kernel
theorem d_PF_fill_99 : decode prog_1_method_10_code 99 = .ok (.iload 7, 2) := by decide +kernel
theorem d_PF_fill_101 : decode prog_1_method_10_code 101 = .ok (.iadd, 1) := by decide +kernel
theorem d_PF_fill_102 : decode prog_1_method_10_code 102 = .ok (.invokevirtual 170, 3) := by decide +kernel
theorem d_PF_fill_105 : decode prog_1_method_10_code 105 = .ok (.iload 5, 2) := by decide +kernel
theorem d_PF_fill_107 : decode prog_1_method_10_code 107 = .ok (.iadd, 1) := by decide +kernel
theorem d_PF_fill_108 : decode prog_1_method_10_code 108 = .ok (.iload 6, 2) := by decide +kernel
theorem d_PF_fill_110 : decode prog_1_method_10_code 110 = .ok (.iastore, 1) := by decide +kernel
theorem d_PF_fill_111 : decode prog_1_method_10_code 111 = .ok (.iinc 8 1, 3) := by decide +kernel
theorem d_PF_fill_114 : decode prog_1_method_10_code 114 = .ok (.goto (-37), 3) := by decide +kernel
theorem d_PF_fill_117 : decode prog_1_method_10_code 117 = .ok (.iinc 7 1, 3) := by decide +kernel
theorem d_PF_fill_120 : decode prog_1_method_10_code 120 = .ok (.goto (-53), 3) := by decide +kernel
theorem d_PF_fill_123 : decode prog_1_method_10_code 123 = .ok (.return_, 1) := by decide +kernel
set_option maxRecDepth 100000 in
set_option maxHeartbeats 4000000 in
theorem c_PF_fill {l0 : Launch} (hl : l0.stackTraces = false) (n : Nat) (ids : List Nat) {t : Nat} (ht : mm_ok ids t 1 0) (a0 : Int32) (a1 : Int32) (a2 : Int32) (a3 : Int32) (a4 : Int32) (a5 : Int32) (σ : Mm) : kw_C l0 y_PF_fill (Cond.code y_PF_fill prog_1_method_10_code 9 none :: kw_Ts) rm_PF_fill kw_otv ids [] [.ref t, .int a0, .int a1, .int a2, .int a3, .int a4, .int a5] σ (F_PF_fill n t a0 a1 a2 a3 a4 a5 σ) := by
  refine kw_start (L0 := [some (.ref t), some (.int a0), some (.int a1), some (.int a2), some (.int a3), some (.int a4), some (.int a5), none, none]) hl (by decide +kernel) (Nat.le_of_ble_eq_true rfl) rfl (fun Γ ad C Ce => ?_)
  unfold F_PF_fill
  refine kw_aload_n C d_PF_fill_0 rfl ?_
  refine kw_callVt (As := []) (cl' := 1) (sl' := 6) C Ce (fun _ _ => rfl) (c_PF_wantPicture hl n ids ht  σ) mi_PF_136 v_PF_wantPicture ⟨_, _, rfl⟩ ht ⟨Nat.le_of_ble_eq_true rfl, Nat.le_of_ble_eq_true rfl⟩ (Nat.le_of_ble_eq_true rfl) ⟨Nat.le_of_ble_eq_true rfl, Nat.le_of_ble_eq_true rfl⟩ ⟨rfl, rfl⟩ rfl (by simp) (fun _ _ => rfl) d_PF_fill_1 (fun _ σ1 => ?_)
  refine kw_aload_n C d_PF_fill_4 rfl ?_
  refine kw_iload_n C d_PF_fill_5 rfl ?_
  refine kw_iload_n C d_PF_fill_6 rfl ?_
  refine kw_iload C d_PF_fill_7 rfl ?_
  refine kw_callVt (As := [.int a0, .int a1, .int a4]) (cl' := 2) (sl' := 12) C Ce (fun _ _ => rfl) (c_PF_wantSample hl n ids ht a0 a1 a4 σ1) mi_PF_163 v_PF_wantSample ⟨_, _, rfl⟩ ht ⟨Nat.le_of_ble_eq_true rfl, Nat.le_of_ble_eq_true rfl⟩ (Nat.le_of_ble_eq_true rfl) ⟨Nat.le_of_ble_eq_true rfl, Nat.le_of_ble_eq_true rfl⟩ ⟨rfl, rfl⟩ rfl (by simp) (fun _ _ => rfl) d_PF_fill_9 (fun _ σ2 => ?_)
  refine kw_iload_n C d_PF_fill_12 rfl ?_
  refine kw_iconst (v := 1) C d_PF_fill_13 (by decide) ?_
  refine kw_j (α := Unit) (pcj := 50) (Lj := fun x4 => [none, none, none, none, none, none, none, none, none]) (stj := fun x4 => []) (fun x4 σ5 => ?_) (fun k3 hk3 => ?_)
  · exact kw_throw0 C Ce ti_PF_177_179 (by simp) (fun _ _ => rfl) (Nat.le_of_ble_eq_true rfl) (Nat.le_of_ble_eq_true rfl) (Nat.le_of_ble_eq_true rfl) (Nat.le_of_ble_eq_true rfl) d_PF_fill_50 d_PF_fill_53 d_PF_fill_54 d_PF_fill_57 rfl
  · refine kw_icmp_lt (tgt := 50) C d_PF_fill_14 (by decide) ?_ ?_
    · exact kw_wk (hk3 () σ2) ⟨Or.inl rfl, Or.inl rfl, Or.inl rfl, Or.inl rfl, Or.inl rfl, Or.inl rfl, Or.inl rfl, Or.inl rfl, Or.inl rfl, trivial⟩
    · refine kw_iload C d_PF_fill_17 rfl ?_
      refine kw_iconst (v := 1) C d_PF_fill_19 (by decide) ?_
      refine kw_icmp_lt (tgt := 50) C d_PF_fill_20 (by decide) ?_ ?_
      · exact kw_wk (hk3 () σ2) ⟨Or.inl rfl, Or.inl rfl, Or.inl rfl, Or.inl rfl, Or.inl rfl, Or.inl rfl, Or.inl rfl, Or.inl rfl, Or.inl rfl, trivial⟩
      · refine kw_iload_n C d_PF_fill_23 rfl ?_
        refine kw_aload_n C d_PF_fill_24 rfl ?_
        refine kw_getR C fi_PF_65 rfl rfl ht d_PF_fill_25 (fun o6 ho6 => ?_)
        refine kw_getI C fi_PF_139 (Or.inl rfl) ho6 d_PF_fill_28 ?_
        refine kw_iload_n C d_PF_fill_31 rfl ?_
        refine kw_isub C d_PF_fill_32 ?_
        refine kw_icmp_gt (tgt := 50) C d_PF_fill_33 (by decide) ?_ ?_
        · exact kw_wk (hk3 () σ2) ⟨Or.inl rfl, Or.inl rfl, Or.inl rfl, Or.inl rfl, Or.inl rfl, Or.inl rfl, Or.inl rfl, Or.inl rfl, Or.inl rfl, trivial⟩
        · refine kw_iload C d_PF_fill_36 rfl ?_
          refine kw_aload_n C d_PF_fill_38 rfl ?_
          refine kw_getR C fi_PF_65 rfl rfl ht d_PF_fill_39 (fun o7 ho7 => ?_)
          refine kw_getI C fi_PF_142 (Or.inl rfl) ho7 d_PF_fill_42 ?_
          refine kw_iload_n C d_PF_fill_45 rfl ?_
          refine kw_isub C d_PF_fill_46 ?_
          refine kw_icmp_le (tgt := 58) C d_PF_fill_47 (by decide) ?_ ?_
          · refine kw_aload_n C d_PF_fill_58 rfl ?_
            refine kw_iload C d_PF_fill_59 rfl ?_
            refine kw_callVt (As := [.int a5]) (cl' := 3) (sl' := 18) C Ce (fun _ _ => rfl) (c_PF_wantValue hl n ids ht a5 σ2) mi_PF_174 v_PF_wantValue ⟨_, _, rfl⟩ ht ⟨Nat.le_of_ble_eq_true rfl, Nat.le_of_ble_eq_true rfl⟩ (Nat.le_of_ble_eq_true rfl) ⟨Nat.le_of_ble_eq_true rfl, Nat.le_of_ble_eq_true rfl⟩ ⟨rfl, rfl⟩ rfl (by simp) (fun _ _ => rfl) d_PF_fill_61 (fun _ σ8 => ?_)
            refine kw_iconst (v := 0) C d_PF_fill_64 (by decide) ?_
            refine kw_istore (L' := [some (.ref t), some (.int a0), some (.int a1), some (.int a2), some (.int a3), some (.int a4), some (.int a5), some (.int 0), none]) C d_PF_fill_65 (by decide) rfl ?_
            refine kw_wk (kw_l (α := Int32) (pc := 67) (Lj := fun x10 => [some (.ref t), some (.int a0), some (.int a1), some (.int a2), some (.int a3), some (.int a4), some (.int a5), some (.int x10), none]) (stj := fun x10 => []) (fun k9 hk9 x10 σ11 => ?_) n 0 σ8) ⟨Or.inr rfl, Or.inr rfl, Or.inr rfl, Or.inr rfl, Or.inr rfl, Or.inr rfl, Or.inr rfl, Or.inr rfl, Or.inl rfl, trivial⟩
            refine kw_iload C d_PF_fill_67 rfl ?_
            refine kw_iload C d_PF_fill_69 rfl ?_
            refine kw_icmp_ge (tgt := 123) C d_PF_fill_71 (by decide) ?_ ?_
            · exact kw_vret C Ce rfl (by simp) (fun _ _ => rfl) (Nat.le_of_ble_eq_true rfl) (Nat.le_of_ble_eq_true rfl) rfl d_PF_fill_123
            · refine kw_iconst (v := 0) C d_PF_fill_74 (by decide) ?_
              refine kw_istore (L' := [some (.ref t), some (.int a0), some (.int a1), some (.int a2), some (.int a3), some (.int a4), some (.int a5), some (.int x10), some (.int 0)]) C d_PF_fill_75 (by decide) rfl ?_
              refine kw_wk (kw_l (α := Int32) (pc := 77) (Lj := fun x13 => [some (.ref t), some (.int a0), some (.int a1), some (.int a2), some (.int a3), some (.int a4), some (.int a5), some (.int x10), some (.int x13)]) (stj := fun x13 => []) (fun k12 hk12 x13 σ14 => ?_) n 0 σ11) ⟨Or.inr rfl, Or.inr rfl, Or.inr rfl, Or.inr rfl, Or.inr rfl, Or.inr rfl, Or.inr rfl, Or.inr rfl, Or.inr rfl, trivial⟩
              refine kw_iload C d_PF_fill_77 rfl ?_
              refine kw_iload_n C d_PF_fill_79 rfl ?_
              refine kw_icmp_ge (tgt := 117) C d_PF_fill_80 (by decide) ?_ ?_
              · refine kw_iincL (L2 := fun x15 => [some (.ref t), some (.int a0), some (.int a1), some (.int a2), some (.int a3), some (.int a4), some (.int a5), some (.int x15), some (.int x13)]) C d_PF_fill_117 (by decide) rfl (fun _ => rfl) (fun x15 => ?_)
                refine kw_goto (tgt := 67) C d_PF_fill_120 (by decide) ?_
                exact kw_wk (hk9 x15 σ14) ⟨Or.inr rfl, Or.inr rfl, Or.inr rfl, Or.inr rfl, Or.inr rfl, Or.inr rfl, Or.inr rfl, Or.inr rfl, Or.inl rfl, trivial⟩
              · refine kw_aload_n C d_PF_fill_83 rfl ?_
                refine kw_getR C fi_PF_65 rfl rfl ht d_PF_fill_84 (fun o16 ho16 => ?_)
                refine kw_getR C fi_PF_166 rfl rfl ho16 d_PF_fill_87 (fun o17 ho17 => ?_)
                refine kw_aload_n C d_PF_fill_90 rfl ?_
                refine kw_getR C fi_PF_65 rfl rfl ht d_PF_fill_91 (fun o18 ho18 => ?_)
                refine kw_iload_n C d_PF_fill_94 rfl ?_
                refine kw_iload C d_PF_fill_95 rfl ?_
                refine kw_iadd C d_PF_fill_97 ?_
                refine kw_iload_n C d_PF_fill_98 rfl ?_
                refine kw_iload C d_PF_fill_99 rfl ?_
                refine kw_iadd C d_PF_fill_101 ?_
                refine kw_callVi (cl' := 3) (sl' := 18) (As := [.int (a0 + x13), .int (a1 + x10)]) C (c_Picture_indexOf hl n ids ho18 (a0 + x13) (a1 + x10) σ14) mi_PF_170 v_Picture_indexOf ⟨_, _, rfl⟩ ho18 ⟨Nat.le_of_ble_eq_true rfl, Nat.le_of_ble_eq_true rfl⟩ (Nat.le_of_ble_eq_true rfl) ⟨Nat.le_of_ble_eq_true rfl, Nat.le_of_ble_eq_true rfl⟩ ⟨rfl, rfl⟩ rfl d_PF_fill_102 (fun x19 σ20 => ?_)
                refine kw_iload C d_PF_fill_105 rfl ?_
                refine kw_iadd C d_PF_fill_107 ?_
                refine kw_iload C d_PF_fill_108 rfl ?_
                refine kw_iast C ho17 d_PF_fill_110 (fun σ21 => ?_)
                refine kw_iincL (L2 := fun x22 => [some (.ref t), some (.int a0), some (.int a1), some (.int a2), some (.int a3), some (.int a4), some (.int a5), some (.int x10), some (.int x22)]) C d_PF_fill_111 (by decide) rfl (fun _ => rfl) (fun x22 => ?_)
                refine kw_goto (tgt := 77) C d_PF_fill_114 (by decide) ?_
                exact kw_wk (hk12 x22 σ21) ⟨Or.inr rfl, Or.inr rfl, Or.inr rfl, Or.inr rfl, Or.inr rfl, Or.inr rfl, Or.inr rfl, Or.inr rfl, Or.inr rfl, trivial⟩
          · exact kw_wk (hk3 () σ2) ⟨Or.inl rfl, Or.inl rfl, Or.inl rfl, Or.inl rfl, Or.inl rfl, Or.inl rfl, Or.inl rfl, Or.inl rfl, Or.inl rfl, trivial⟩
/-! PF_colour -/
def rm_PF_colour : Room := { frames := 7, cells := 3, slots := 18, locals := 109 }
def F_PF_colour (n : Nat) (t : Nat) (a0 : Int32) (a1 : Int32) (a2 : Int32) (σ : Mm) : Option ((Int32 ⊕ String) × Mm) :=
kf_t (F_PF_wantPicture n t σ) fun _ σ1 =>
Option.bind (gR σ1 (64 * t + 6)) fun o2 =>
kf_c2 (F_Picture_mayHaveColours n (gS σ1 (64 * o2 + 2)) σ1) fun x3 σ4 =>
if x3 = 0 then (
some (.inr "java/lang/IllegalArgumentException", σ4)) else (
Option.bind (gR σ4 (64 * t + 6)) fun o5 =>
Option.bind (gR σ4 (64 * t + 6)) fun o6 =>
kf_c2 (F_Picture_mostColours n o6 σ4) fun x7 σ8 =>
if (gS σ4 (64 * o5 + 6)) < x7 then (
Option.bind (gR σ8 (64 * t + 6)) fun o9 =>
Option.bind (F_Picture_addColour n o9 a0 a1 a2 σ8) fun σ10 =>
Option.bind (gR σ10 (64 * t + 6)) fun o11 =>
some (.inl (gS σ10 (64 * o11 + 6)), σ10)) else (
some (.inr "java/lang/UnsupportedOperationException", σ8)))
theorem d_PF_colour_0 : decode prog_1_method_11_code 0 = .ok (.aload_n 0, 1) := by decide +kernel
theorem d_PF_colour_1 : decode prog_1_method_11_code 1 = .ok (.invokevirtual 136, 3) := by decide +kernel
theorem d_PF_colour_4 : decode prog_1_method_11_code 4 = .ok (.aload_n 0, 1) := by decide +kernel
theorem d_PF_colour_5 : decode prog_1_method_11_code 5 = .ok (.getfield 65, 3) := by decide +kernel
theorem d_PF_colour_8 : decode prog_1_method_11_code 8 = .ok (.getfield 145, 3) := by decide +kernel
theorem d_PF_colour_11 : decode prog_1_method_11_code 11 = .ok (.invokestatic 180, 3) := by decide +kernel
theorem d_PF_colour_14 : decode prog_1_method_11_code 14 = .ok (.ifCond .ne 11, 3) := by decide +kernel
theorem d_PF_colour_17 : decode prog_1_method_11_code 17 = .ok (.new 88, 3) := by decide +kernel
theorem d_PF_colour_20 : decode prog_1_method_11_code 20 = .ok (.dup, 1) := by decide +kernel
theorem d_PF_colour_21 : decode prog_1_method_11_code 21 = .ok (.invokespecial 90, 3) := by decide +kernel
theorem d_PF_colour_24 : decode prog_1_method_11_code 24 = .ok (.athrow, 1) := by decide +kernel
theorem d_PF_colour_25 : decode prog_1_method_11_code 25 = .ok (.aload_n 0, 1) := by decide +kernel
theorem d_PF_colour_26 : decode prog_1_method_11_code 26 = .ok (.getfield 65, 3) := by decide +kernel
theorem d_PF_colour_29 : decode prog_1_method_11_code 29 = .ok (.getfield 154, 3) := by decide +kernel
theorem d_PF_colour_32 : decode prog_1_method_11_code 32 = .ok (.aload_n 0, 1) := by decide +kernel
theorem d_PF_colour_33 : decode prog_1_method_11_code 33 = .ok (.getfield 65, 3) := by decide +kernel
theorem d_PF_colour_36 : decode prog_1_method_11_code 36 = .ok (.invokevirtual 183, 3) := by decide +kernel
theorem d_PF_colour_39 : decode prog_1_method_11_code 39 = .ok (.if_icmp .lt 11, 3) := by decide +kernel
theorem d_PF_colour_42 : decode prog_1_method_11_code 42 = .ok (.new 81, 3) := by decide +kernel
theorem d_PF_colour_45 : decode prog_1_method_11_code 45 = .ok (.dup, 1) := by decide +kernel
theorem d_PF_colour_46 : decode prog_1_method_11_code 46 = .ok (.invokespecial 83, 3) := by decide +kernel
theorem d_PF_colour_49 : decode prog_1_method_11_code 49 = .ok (.athrow, 1) := by decide +kernel
theorem d_PF_colour_50 : decode prog_1_method_11_code 50 = .ok (.aload_n 0, 1) := by decide +kernel
theorem d_PF_colour_51 : decode prog_1_method_11_code 51 = .ok (.getfield 65, 3) := by decide +kernel
theorem d_PF_colour_54 : decode prog_1_method_11_code 54 = .ok (.iload_n 1, 1) := by decide +kernel
theorem d_PF_colour_55 : decode prog_1_method_11_code 55 = .ok (.iload_n 2, 1) := by decide +kernel
theorem d_PF_colour_56 : decode prog_1_method_11_code 56 = .ok (.iload_n 3, 1) := by decide +kernel
theorem d_PF_colour_57 : decode prog_1_method_11_code 57 = .ok (.invokevirtual 132, 3) := by decide +kernel
theorem d_PF_colour_60 : decode prog_1_method_11_code 60 = .ok (.aload_n 0, 1) := by decide +kernel
theorem d_PF_colour_61 : decode prog_1_method_11_code 61 = .ok (.getfield 65, 3) := by decide +kernel
theorem d_PF_colour_64 : decode prog_1_method_11_code 64 = .ok (.getfield 154, 3) := by decide +kernel
theorem d_PF_colour_67 : decode prog_1_method_11_code 67 = .ok (.ireturn, 1) := by decide +kernel
set_option maxRecDepth 100000 in
set_option maxHeartbeats 4000000 in
theorem c_PF_colour {l0 : Launch} (hl : l0.stackTraces = false) (n : Nat) (ids : List Nat) {t : Nat} (ht : mm_ok ids t 1 0) (a0 : Int32) (a1 : Int32) (a2 : Int32) (σ : Mm) : kw_C l0 y_PF_colour (Cond.code y_PF_colour prog_1_method_11_code 4 (some .int) :: kw_Ts) rm_PF_colour kw_oti ids [] [.ref t, .int a0, .int a1, .int a2] σ (F_PF_colour n t a0 a1 a2 σ) := by
  refine kw_start (L0 := [some (.ref t), some (.int a0), some (.int a1), some (.int a2)]) hl (by decide +kernel) (Nat.le_of_ble_eq_true rfl) rfl (fun Γ ad C Ce => ?_)
  unfold F_PF_colour
  refine kw_aload_n C d_PF_colour_0 rfl ?_
  refine kw_callVt (As := []) (cl' := 1) (sl' := 6) C Ce (fun _ _ => rfl) (c_PF_wantPicture hl n ids ht  σ) mi_PF_136 v_PF_wantPicture ⟨_, _, rfl⟩ ht ⟨Nat.le_of_ble_eq_true rfl, Nat.le_of_ble_eq_true rfl⟩ (Nat.le_of_ble_eq_true rfl) ⟨Nat.le_of_ble_eq_true rfl, Nat.le_of_ble_eq_true rfl⟩ ⟨rfl, rfl⟩ rfl (by simp) (fun _ _ => rfl) d_PF_colour_1 (fun _ σ1 => ?_)
  refine kw_aload_n C d_PF_colour_4 rfl ?_
  refine kw_getR C fi_PF_65 rfl rfl ht d_PF_colour_5 (fun o2 ho2 => ?_)
  refine kw_getI C fi_PF_145 (Or.inl rfl) ho2 d_PF_colour_8 ?_
  refine kw_callSi (cl' := 1) (sl' := 6) (As := [.int (gS σ1 (64 * o2 + 2))]) C (c_Picture_mayHaveColours hl n ids  (gS σ1 (64 * o2 + 2)) σ1) mi_PF_180 s_Picture_mayHaveColours ⟨Nat.le_of_ble_eq_true rfl, Nat.le_of_ble_eq_true rfl⟩ (Nat.le_of_ble_eq_true rfl) ⟨Nat.le_of_ble_eq_true rfl, Nat.le_of_ble_eq_true rfl⟩ ⟨rfl, rfl⟩ rfl d_PF_colour_11 (fun x3 σ4 => ?_)
  refine kw_if_ne (tgt := 25) C d_PF_colour_14 (by decide) ?_ ?_
  · refine kw_aload_n C d_PF_colour_25 rfl ?_
    refine kw_getR C fi_PF_65 rfl rfl ht d_PF_colour_26 (fun o5 ho5 => ?_)
    refine kw_getI C fi_PF_154 (Or.inl rfl) ho5 d_PF_colour_29 ?_
    refine kw_aload_n C d_PF_colour_32 rfl ?_
    refine kw_getR C fi_PF_65 rfl rfl ht d_PF_colour_33 (fun o6 ho6 => ?_)
    refine kw_callVi (cl' := 1) (sl' := 6) (As := []) C (c_Picture_mostColours hl n ids ho6  σ4) mi_PF_183 v_Picture_mostColours ⟨_, _, rfl⟩ ho6 ⟨Nat.le_of_ble_eq_true rfl, Nat.le_of_ble_eq_true rfl⟩ (Nat.le_of_ble_eq_true rfl) ⟨Nat.le_of_ble_eq_true rfl, Nat.le_of_ble_eq_true rfl⟩ ⟨rfl, rfl⟩ rfl d_PF_colour_36 (fun x7 σ8 => ?_)
    refine kw_icmp_lt (tgt := 50) C d_PF_colour_39 (by decide) ?_ ?_
    · refine kw_aload_n C d_PF_colour_50 rfl ?_
      refine kw_getR C fi_PF_65 rfl rfl ht d_PF_colour_51 (fun o9 ho9 => ?_)
      refine kw_iload_n C d_PF_colour_54 rfl ?_
      refine kw_iload_n C d_PF_colour_55 rfl ?_
      refine kw_iload_n C d_PF_colour_56 rfl ?_
      refine kw_callVv (cl' := 1) (sl' := 6) (As := [.int a0, .int a1, .int a2]) C (c_Picture_addColour hl n ids ho9 a0 a1 a2 σ8) mi_PF_132 v_Picture_addColour ⟨_, _, rfl⟩ ho9 ⟨Nat.le_of_ble_eq_true rfl, Nat.le_of_ble_eq_true rfl⟩ (Nat.le_of_ble_eq_true rfl) ⟨Nat.le_of_ble_eq_true rfl, Nat.le_of_ble_eq_true rfl⟩ ⟨rfl, rfl⟩ rfl d_PF_colour_57 (fun σ10 => ?_)
      refine kw_aload_n C d_PF_colour_60 rfl ?_
      refine kw_getR C fi_PF_65 rfl rfl ht d_PF_colour_61 (fun o11 ho11 => ?_)
      refine kw_getI C fi_PF_154 (Or.inl rfl) ho11 d_PF_colour_64 ?_
      exact kw_iret C Ce rfl (by simp) (fun _ _ => rfl) (Nat.le_of_ble_eq_true rfl) (Nat.le_of_ble_eq_true rfl) rfl d_PF_colour_67
    · exact kw_throw0 C Ce ti_PF_81_83 (by simp) (fun _ _ => rfl) (Nat.le_of_ble_eq_true rfl) (Nat.le_of_ble_eq_true rfl) (Nat.le_of_ble_eq_true rfl) (Nat.le_of_ble_eq_true rfl) d_PF_colour_42 d_PF_colour_45 d_PF_colour_46 d_PF_colour_49 rfl
  · exact kw_throw0 C Ce ti_PF_88_90 (by simp) (fun _ _ => rfl) (Nat.le_of_ble_eq_true rfl) (Nat.le_of_ble_eq_true rfl) (Nat.le_of_ble_eq_true rfl) (Nat.le_of_ble_eq_true rfl) d_PF_colour_17 d_PF_colour_20 d_PF_colour_21 d_PF_colour_24 rfl
/-! PF_ofColour -/
def rm_PF_ofColour : Room := { frames := 7, cells := 2, slots := 12, locals := 109 }
def F_PF_ofColour (n : Nat) (t : Nat) (a0 : Int32) (a1 : Int32) (σ : Mm) : Option ((Int32 ⊕ String) × Mm) :=
kf_t (F_PF_wantPicture n t σ) fun _ σ1 =>
kf_j (α := Unit) (fun x3 σ4 =>
some (.inr "java/lang/IndexOutOfBoundsException", σ4)) fun k2 =>
if a0 < 0 then (
k2 () σ1) else (
Option.bind (gR σ1 (64 * t + 6)) fun o5 =>
if (gS σ1 (64 * o5 + 6)) ≤ a0 then (
k2 () σ1) else (
if a1 < 0 then (
k2 () σ1) else (
if a1 ≤ 2 then (
Option.bind (gR σ1 (64 * t + 6)) fun o6 =>
Option.bind (gR σ1 (64 * o6 + 9)) fun o7 =>
kf_let (((3 : Int32) * a0) + a1 : Int32) fun x8 =>
kf_in x8 (mm_kd o7).2.2 <|
some (.inl (gB σ1 o7 x8.toNatClampNeg), σ1)) else (
k2 () σ1))))
theorem d_PF_ofColour_0 : decode prog_1_method_12_code 0 = .ok (.aload_n 0, 1) := by decide +kernel
theorem d_PF_ofColour_1 : decode prog_1_method_12_code 1 = .ok (.invokevirtual 136, 3) := by decide +kernel
theorem d_PF_ofColour_4 : decode prog_1_method_12_code 4 = .ok (.iload_n 1, 1) := by decide +kernel
theorem d_PF_ofColour_5 : decode prog_1_method_12_code 5 = .ok (.ifCond .lt 23, 3) := by decide +kernel
theorem d_PF_ofColour_8 : decode prog_1_method_12_code 8 = .ok (.iload_n 1, 1) := by decide +kernel
theorem d_PF_ofColour_9 : decode prog_1_method_12_code 9 = .ok (.aload_n 0, 1) := by decide +kernel
theorem d_PF_ofColour_10 : decode prog_1_method_12_code 10 = .ok (.getfield 65, 3) := by decide +kernel
theorem d_PF_ofColour_13 : decode prog_1_method_12_code 13 = .ok (.getfield 154, 3) := by decide +kernel
theorem d_PF_ofColour_16 : decode prog_1_method_12_code 16 = .ok (.if_icmp .ge 12, 3) := by decide +kernel
theorem d_PF_ofColour_19 : decode prog_1_method_12_code 19 = .ok (.iload_n 2, 1) := by decide +kernel
theorem d_PF_ofColour_20 : decode prog_1_method_12_code 20 = .ok (.ifCond .lt 8, 3) := by decide +kernel
theorem d_PF_ofColour_23 : decode prog_1_method_12_code 23 = .ok (.iload_n 2, 1) := by decide +kernel
theorem d_PF_ofColour_24 : decode prog_1_method_12_code 24 = .ok (.iconst 2, 1) := by decide +kernel
theorem d_PF_ofColour_25 : decode prog_1_method_12_code 25 = .ok (.if_icmp .le 11, 3) := by decide +kernel
theorem d_PF_ofColour_28 : decode prog_1_method_12_code 28 = .ok (.new 177, 3) := by decide +kernel
theorem d_PF_ofColour_31 : decode prog_1_method_12_code 31 = .ok (.dup, 1) := by decide +kernel
theorem d_PF_ofColour_32 : decode prog_1_method_12_code 32 = .ok (.invokespecial 179, 3) := by decide +kernel
theorem d_PF_ofColour_35 : decode prog_1_method_12_code 35 = .ok (.athrow, 1) := by decide +kernel
theorem d_PF_ofColour_36 : decode prog_1_method_12_code 36 = .ok (.aload_n 0, 1) := by decide +kernel
theorem d_PF_ofColour_37 : decode prog_1_method_12_code 37 = .ok (.getfield 65, 3) := by decide +kernel
theorem d_PF_ofColour_40 : decode prog_1_method_12_code 40 = .ok (.getfield 187, 3) := by decide +kernel
theorem d_PF_ofColour_43 : decode prog_1_method_12_code 43 = .ok (.iconst 3, 1) := by decide +kernel
theorem d_PF_ofColour_44 : decode prog_1_method_12_code 44 = .ok (.iload_n 1, 1) := by decide +kernel
theorem d_PF_ofColour_45 : decode prog_1_method_12_code 45 = .ok (.imul, 1) := by decide +kernel
theorem d_PF_ofColour_46 : decode prog_1_method_12_code 46 = .ok (.iload_n 2, 1) := by decide +kernel
theorem d_PF_ofColour_47 : decode prog_1_method_12_code 47 = .ok (.iadd, 1) := by decide +kernel
theorem d_PF_ofColour_48 : decode prog_1_method_12_code 48 = .ok (.iaload, 1) := by decide +kernel
theorem d_PF_ofColour_49 : decode prog_1_method_12_code 49 = .ok (.ireturn, 1) := by decide +kernel
set_option maxRecDepth 100000 in
set_option maxHeartbeats 4000000 in
theorem c_PF_ofColour {l0 : Launch} (hl : l0.stackTraces = false) (n : Nat) (ids : List Nat) {t : Nat} (ht : mm_ok ids t 1 0) (a0 : Int32) (a1 : Int32) (σ : Mm) : kw_C l0 y_PF_ofColour (Cond.code y_PF_ofColour prog_1_method_12_code 3 (some .int) :: kw_Ts) rm_PF_ofColour kw_oti ids [] [.ref t, .int a0, .int a1] σ (F_PF_ofColour n t a0 a1 σ) := by
  refine kw_start (L0 := [some (.ref t), some (.int a0), some (.int a1)]) hl (by decide +kernel) (Nat.le_of_ble_eq_true rfl) rfl (fun Γ ad C Ce => ?_)
  unfold F_PF_ofColour
  refine kw_aload_n C d_PF_ofColour_0 rfl ?_
  refine kw_callVt (As := []) (cl' := 1) (sl' := 6) C Ce (fun _ _ => rfl) (c_PF_wantPicture hl n ids ht  σ) mi_PF_136 v_PF_wantPicture ⟨_, _, rfl⟩ ht ⟨Nat.le_of_ble_eq_true rfl, Nat.le_of_ble_eq_true rfl⟩ (Nat.le_of_ble_eq_true rfl) ⟨Nat.le_of_ble_eq_true rfl, Nat.le_of_ble_eq_true rfl⟩ ⟨rfl, rfl⟩ rfl (by simp) (fun _ _ => rfl) d_PF_ofColour_1 (fun _ σ1 => ?_)
  refine kw_iload_n C d_PF_ofColour_4 rfl ?_
  refine kw_j (α := Unit) (pcj := 28) (Lj := fun x3 => [none, none, none]) (stj := fun x3 => []) (fun x3 σ4 => ?_) (fun k2 hk2 => ?_)
  · exact kw_throw0 C Ce ti_PF_177_179 (by simp) (fun _ _ => rfl) (Nat.le_of_ble_eq_true rfl) (Nat.le_of_ble_eq_true rfl) (Nat.le_of_ble_eq_true rfl) (Nat.le_of_ble_eq_true rfl) d_PF_ofColour_28 d_PF_ofColour_31 d_PF_ofColour_32 d_PF_ofColour_35 rfl
  · refine kw_if_lt (tgt := 28) C d_PF_ofColour_5 (by decide) ?_ ?_
    · exact kw_wk (hk2 () σ1) ⟨Or.inl rfl, Or.inl rfl, Or.inl rfl, trivial⟩
    · refine kw_iload_n C d_PF_ofColour_8 rfl ?_
      refine kw_aload_n C d_PF_ofColour_9 rfl ?_
      refine kw_getR C fi_PF_65 rfl rfl ht d_PF_ofColour_10 (fun o5 ho5 => ?_)
      refine kw_getI C fi_PF_154 (Or.inl rfl) ho5 d_PF_ofColour_13 ?_
      refine kw_icmp_ge (tgt := 28) C d_PF_ofColour_16 (by decide) ?_ ?_
      · exact kw_wk (hk2 () σ1) ⟨Or.inl rfl, Or.inl rfl, Or.inl rfl, trivial⟩
      · refine kw_iload_n C d_PF_ofColour_19 rfl ?_
        refine kw_if_lt (tgt := 28) C d_PF_ofColour_20 (by decide) ?_ ?_
        · exact kw_wk (hk2 () σ1) ⟨Or.inl rfl, Or.inl rfl, Or.inl rfl, trivial⟩
        · refine kw_iload_n C d_PF_ofColour_23 rfl ?_
          refine kw_iconst (v := 2) C d_PF_ofColour_24 (by decide) ?_
          refine kw_icmp_le (tgt := 36) C d_PF_ofColour_25 (by decide) ?_ ?_
          · refine kw_aload_n C d_PF_ofColour_36 rfl ?_
            refine kw_getR C fi_PF_65 rfl rfl ht d_PF_ofColour_37 (fun o6 ho6 => ?_)
            refine kw_getR C fi_PF_187 rfl rfl ho6 d_PF_ofColour_40 (fun o7 ho7 => ?_)
            refine kw_iconst (v := 3) C d_PF_ofColour_43 (by decide) ?_
            refine kw_iload_n C d_PF_ofColour_44 rfl ?_
            refine kw_imul C d_PF_ofColour_45 ?_
            refine kw_iload_n C d_PF_ofColour_46 rfl ?_
            refine kw_iadd C d_PF_ofColour_47 ?_
            refine kw_leti (fun x8 => ?_)
            refine kw_iald C (Or.inl ⟨ho7.1, ho7.2.1⟩) d_PF_ofColour_48 ?_
            exact kw_iret C Ce rfl (by simp) (fun _ _ => rfl) (Nat.le_of_ble_eq_true rfl) (Nat.le_of_ble_eq_true rfl) rfl d_PF_ofColour_49
          · exact kw_wk (hk2 () σ1) ⟨Or.inl rfl, Or.inl rfl, Or.inl rfl, trivial⟩
/-! Picture_letsThin -/
def rm_Picture_letsThin : Room := { frames := 1, cells := 0, slots := 0, locals := 21 }
def F_Picture_letsThin (n : Nat) (t : Nat) (a0 : Int32) (a1 : Int32) (a2 : Int32) (σ : Mm) : Option (Int32 × Mm) :=
if (gS σ (64 * t + 2)) = 0 then (
kf_c2 (F_Picture_isNumber n t a0 σ) fun x1 σ2 =>
kf_j (α := Int32) (fun x4 σ5 =>
kf_z x4 (some (x4, σ5))) fun k3 =>
kf_j (α := Unit) (fun x7 σ8 =>
k3 0 σ8) fun k6 =>
if x1 = 0 then (
k6 () σ2) else (
if a0 = a1 then (
if a0 = a2 then (
k3 1 σ2) else (
k6 () σ2)) else (
k6 () σ2))) else (
if (gS σ (64 * t + 2)) = 1 then (
kf_z 0 (some (0, σ))) else (
if (gS σ (64 * t + 2)) = 2 then (
kf_c2 (F_Picture_isNumber n t a0 σ) fun x11 σ12 =>
kf_j (α := Int32) (fun x14 σ15 =>
kf_z x14 (some (x14, σ15))) fun k13 =>
kf_j (α := Unit) (fun x17 σ18 =>
k13 0 σ18) fun k16 =>
if x11 = 0 then (
k16 () σ12) else (
kf_c2 (F_Picture_isNumber n t a1 σ12) fun x19 σ20 =>
if x19 = 0 then (
k16 () σ20) else (
kf_c2 (F_Picture_isNumber n t a2 σ20) fun x21 σ22 =>
if x21 = 0 then (
k16 () σ22) else (
k13 1 σ22)))) else (
if (gS σ (64 * t + 2)) = 3 then (
kf_j (α := Int32) (fun x25 σ26 =>
kf_z x25 (some (x25, σ26))) fun k24 =>
kf_j (α := Unit) (fun x28 σ29 =>
k24 0 σ29) fun k27 =>
if a0 < 0 then (
k27 () σ) else (
if 255 < a0 then (
k27 () σ) else (
k24 1 σ))) else (
kf_z 0 (some (0, σ))))))
theorem d_Picture_letsThin_0 : decode prog_7_method_12_code 0 = .ok (.aload_n 0, 1) := by decide +kernel
theorem d_Picture_letsThin_1 : decode prog_7_method_12_code 1 = .ok (.getfield 37, 3) := by decide +kernel
theorem d_Picture_letsThin_4 : decode prog_7_method_12_code 4 = .ok (.tableswitch 103 0 3 #[32, 103, 56, 86], 32) := by decide +kernel
theorem d_Picture_letsThin_36 : decode prog_7_method_12_code 36 = .ok (.aload_n 0, 1) := by decide +kernel
theorem d_Picture_letsThin_37 : decode prog_7_method_12_code 37 = .ok (.iload_n 1, 1) := by decide +kernel
theorem d_Picture_letsThin_38 : decode prog_7_method_12_code 38 = .ok (.invokevirtual 64, 3) := by decide +kernel
theorem d_Picture_letsThin_41 : decode prog_7_method_12_code 41 = .ok (.ifCond .eq 17, 3) := by decide +kernel
theorem d_Picture_letsThin_44 : decode prog_7_method_12_code 44 = .ok (.iload_n 1, 1) := by decide +kernel
theorem d_Picture_letsThin_45 : decode prog_7_method_12_code 45 = .ok (.iload_n 2, 1) := by decide +kernel
theorem d_Picture_letsThin_46 : decode prog_7_method_12_code 46 = .ok (.if_icmp .ne 12, 3) := by decide +kernel
theorem d_Picture_letsThin_49 : decode prog_7_method_12_code 49 = .ok (.iload_n 1, 1) := by decide +kernel
theorem d_Picture_letsThin_50 : decode prog_7_method_12_code 50 = .ok (.iload_n 3, 1) := by decide +kernel
theorem d_Picture_letsThin_51 : decode prog_7_method_12_code 51 = .ok (.if_icmp .ne 7, 3) := by decide +kernel
theorem d_Picture_letsThin_54 : decode prog_7_method_12_code 54 = .ok (.iconst 1, 1) := by decide +kernel
theorem d_Picture_letsThin_55 : decode prog_7_method_12_code 55 = .ok (.goto 4, 3) := by decide +kernel
theorem d_Picture_letsThin_58 : decode prog_7_method_12_code 58 = .ok (.iconst 0, 1) := by decide +kernel
theorem d_Picture_letsThin_59 : decode prog_7_method_12_code 59 = .ok (.ireturn, 1) := by decide +kernel
theorem d_Picture_letsThin_60 : decode prog_7_method_12_code 60 = .ok (.aload_n 0, 1) := by decide +kernel
theorem d_Picture_letsThin_61 : decode prog_7_method_12_code 61 = .ok (.iload_n 1, 1) := by decide +kernel
theorem d_Picture_letsThin_62 : decode prog_7_method_12_code 62 = .ok (.invokevirtual 64, 3) := by decide +kernel
theorem d_Picture_letsThin_65 : decode prog_7_method_12_code 65 = .ok (.ifCond .eq 23, 3) := by decide +kernel
theorem d_Picture_letsThin_68 : decode prog_7_method_12_code 68 = .ok (.aload_n 0, 1) := by decide +kernel
theorem d_Picture_letsThin_69 : decode prog_7_method_12_code 69 = .ok (.iload_n 2, 1) := by decide +kernel
theorem d_Picture_letsThin_70 : decode prog_7_method_12_code 70 = .ok (.invokevirtual 64, 3) := by decide +kernel
theorem d_Picture_letsThin_73 : decode prog_7_method_12_code 73 = .ok (.ifCond .eq 15, 3) := by decide +kernel
theorem d_Picture_letsThin_76 : decode prog_7_method_12_code 76 = .ok (.aload_n 0, 1) := by decide +kernel
theorem d_Picture_letsThin_77 : decode prog_7_method_12_code 77 = .ok (.iload_n 3, 1) := by decide +kernel
theorem d_Picture_letsThin_78 : decode prog_7_method_12_code 78 = .ok (.invokevirtual 64, 3) := by decide +kernel
theorem d_Picture_letsThin_81 : decode prog_7_method_12_code 81 = .ok (.ifCond .eq 7, 3) := by decide +kernel
theorem d_Picture_letsThin_84 : decode prog_7_method_12_code 84 = .ok (.iconst 1, 1) := by decide +kernel
theorem d_Picture_letsThin_85 : decode prog_7_method_12_code 85 = .ok (.goto 4, 3) := by decide +kernel
theorem d_Picture_letsThin_88 : decode prog_7_method_12_code 88 = .ok (.iconst 0, 1) := by decide +kernel
theorem d_Picture_letsThin_89 : decode prog_7_method_12_code 89 = .ok (.ireturn, 1) := by decide +kernel
theorem d_Picture_letsThin_90 : decode prog_7_method_12_code 90 = .ok (.iload_n 1, 1) := by decide +kernel
theorem d_Picture_letsThin_91 : decode prog_7_method_12_code 91 = .ok (.ifCond .lt 14, 3) := by decide +kernel
theorem d_Picture_letsThin_94 : decode prog_7_method_12_code 94 = .ok (.iload_n 1, 1) := by decide +kernel
theorem d_Picture_letsThin_95 : decode prog_7_method_12_code 95 = .ok (.sipush 255, 3) := by decide +kernel
theorem d_Picture_letsThin_98 : decode prog_7_method_12_code 98 = .ok (.if_icmp .gt 7, 3) := by decide +kernel
theorem d_Picture_letsThin_101 : decode prog_7_method_12_code 101 = .ok (.iconst 1, 1) := by decide +kernel
theorem d_Picture_letsThin_102 : decode prog_7_method_12_code 102 = .ok (.goto 4, 3) := by decide +kernel
theorem d_Picture_letsThin_105 : decode prog_7_method_12_code 105 = .ok (.iconst 0, 1) := by decide +kernel
theorem d_Picture_letsThin_106 : decode prog_7_method_12_code 106 = .ok (.ireturn, 1) := by decide +kernel
theorem d_Picture_letsThin_107 : decode prog_7_method_12_code 107 = .ok (.iconst 0, 1) := by decide +kernel
theorem d_Picture_letsThin_108 : decode prog_7_method_12_code 108 = .ok (.ireturn, 1) := by decide +kernel
set_option maxRecDepth 100000 in
set_option maxHeartbeats 4000000 in
theorem c_Picture_letsThin {l0 : Launch} (hl : l0.stackTraces = false) (n : Nat) (ids : List Nat) {t : Nat} (ht : mm_ok ids t 1 10) (a0 : Int32) (a1 : Int32) (a2 : Int32) (σ : Mm) : kw_C l0 y_Picture_letsThin (Cond.code y_Picture_letsThin prog_7_method_12_code 4 (some .boolean) :: kw_Ts) rm_Picture_letsThin kw_oi ids [] [.ref t, .int a0, .int a1, .int a2] σ (F_Picture_letsThin n t a0 a1 a2 σ) := by
  refine kw_start (L0 := [some (.ref t), some (.int a0), some (.int a1), some (.int a2)]) hl (by decide +kernel) (Nat.le_of_ble_eq_true rfl) rfl (fun Γ ad C Ce => ?_)
  unfold F_Picture_letsThin
  refine kw_aload_n C d_Picture_letsThin_0 rfl ?_
  refine kw_getI C fi_Picture_37 (Or.inl rfl) ht d_Picture_letsThin_1 ?_
  refine kw_sw ?_ (fun hn9 => ?_)
  · refine kw_tsIn (off := 32) (tgt := 36) C d_Picture_letsThin_4 (by decide) (by decide) (by decide) (by decide) ?_
    refine kw_aload_n C d_Picture_letsThin_36 rfl ?_
    refine kw_iload_n C d_Picture_letsThin_37 rfl ?_
    refine kw_callVi (cl' := 0) (sl' := 0) (As := [.int a0]) C (c_Picture_isNumber hl n ids ht a0 σ) mi_Picture_64 v_Picture_isNumber ⟨_, _, rfl⟩ ht ⟨Nat.le_of_ble_eq_true rfl, Nat.le_of_ble_eq_true rfl⟩ (Nat.le_of_ble_eq_true rfl) ⟨Nat.le_of_ble_eq_true rfl, Nat.le_of_ble_eq_true rfl⟩ ⟨rfl, rfl⟩ rfl d_Picture_letsThin_38 (fun x1 σ2 => ?_)
    refine kw_j (α := Int32) (pcj := 59) (Lj := fun x4 => [none, none, none, none]) (stj := fun x4 => [.int x4]) (fun x4 σ5 => ?_) (fun k3 hk3 => ?_)
    · exact kw_zret C Ce rfl (by simp) (fun _ _ => rfl) (Nat.le_of_ble_eq_true rfl) (Nat.le_of_ble_eq_true rfl) rfl d_Picture_letsThin_59
    · refine kw_j (α := Unit) (pcj := 58) (Lj := fun x7 => [none, none, none, none]) (stj := fun x7 => []) (fun x7 σ8 => ?_) (fun k6 hk6 => ?_)
      · refine kw_iconst (v := 0) C d_Picture_letsThin_58 (by decide) ?_
        exact kw_wk (hk3 0 σ8) ⟨Or.inl rfl, Or.inl rfl, Or.inl rfl, Or.inl rfl, trivial⟩
      · refine kw_if_eq (tgt := 58) C d_Picture_letsThin_41 (by decide) ?_ ?_
        · exact kw_wk (hk6 () σ2) ⟨Or.inl rfl, Or.inl rfl, Or.inl rfl, Or.inl rfl, trivial⟩
        · refine kw_iload_n C d_Picture_letsThin_44 rfl ?_
          refine kw_iload_n C d_Picture_letsThin_45 rfl ?_
          refine kw_icmp_ne (tgt := 58) C d_Picture_letsThin_46 (by decide) ?_ ?_
          · exact kw_wk (hk6 () σ2) ⟨Or.inl rfl, Or.inl rfl, Or.inl rfl, Or.inl rfl, trivial⟩
          · refine kw_iload_n C d_Picture_letsThin_49 rfl ?_
            refine kw_iload_n C d_Picture_letsThin_50 rfl ?_
            refine kw_icmp_ne (tgt := 58) C d_Picture_letsThin_51 (by decide) ?_ ?_
            · exact kw_wk (hk6 () σ2) ⟨Or.inl rfl, Or.inl rfl, Or.inl rfl, Or.inl rfl, trivial⟩
            · refine kw_iconst (v := 1) C d_Picture_letsThin_54 (by decide) ?_
              refine kw_goto (tgt := 59) C d_Picture_letsThin_55 (by decide) ?_
              exact kw_wk (hk3 1 σ2) ⟨Or.inl rfl, Or.inl rfl, Or.inl rfl, Or.inl rfl, trivial⟩
  refine kw_sw ?_ (fun hn10 => ?_)
  · refine kw_tsIn (off := 103) (tgt := 107) C d_Picture_letsThin_4 (by decide) (by decide) (by decide) (by decide) ?_
    refine kw_iconst (v := 0) C d_Picture_letsThin_107 (by decide) ?_
    exact kw_zret C Ce rfl (by simp) (fun _ _ => rfl) (Nat.le_of_ble_eq_true rfl) (Nat.le_of_ble_eq_true rfl) rfl d_Picture_letsThin_108
  refine kw_sw ?_ (fun hn23 => ?_)
  · refine kw_tsIn (off := 56) (tgt := 60) C d_Picture_letsThin_4 (by decide) (by decide) (by decide) (by decide) ?_
    refine kw_aload_n C d_Picture_letsThin_60 rfl ?_
    refine kw_iload_n C d_Picture_letsThin_61 rfl ?_
    refine kw_callVi (cl' := 0) (sl' := 0) (As := [.int a0]) C (c_Picture_isNumber hl n ids ht a0 σ) mi_Picture_64 v_Picture_isNumber ⟨_, _, rfl⟩ ht ⟨Nat.le_of_ble_eq_true rfl, Nat.le_of_ble_eq_true rfl⟩ (Nat.le_of_ble_eq_true rfl) ⟨Nat.le_of_ble_eq_true rfl, Nat.le_of_ble_eq_true rfl⟩ ⟨rfl, rfl⟩ rfl d_Picture_letsThin_62 (fun x11 σ12 => ?_)
    refine kw_j (α := Int32) (pcj := 89) (Lj := fun x14 => [none, none, none, none]) (stj := fun x14 => [.int x14]) (fun x14 σ15 => ?_) (fun k13 hk13 => ?_)
    · exact kw_zret C Ce rfl (by simp) (fun _ _ => rfl) (Nat.le_of_ble_eq_true rfl) (Nat.le_of_ble_eq_true rfl) rfl d_Picture_letsThin_89
    · refine kw_j (α := Unit) (pcj := 88) (Lj := fun x17 => [none, none, none, none]) (stj := fun x17 => []) (fun x17 σ18 => ?_) (fun k16 hk16 => ?_)
      · refine kw_iconst (v := 0) C d_Picture_letsThin_88 (by decide) ?_
        exact kw_wk (hk13 0 σ18) ⟨Or.inl rfl, Or.inl rfl, Or.inl rfl, Or.inl rfl, trivial⟩
      · refine kw_if_eq (tgt := 88) C d_Picture_letsThin_65 (by decide) ?_ ?_
        · exact kw_wk (hk16 () σ12) ⟨Or.inl rfl, Or.inl rfl, Or.inl rfl, Or.inl rfl, trivial⟩
        · refine kw_aload_n C d_Picture_letsThin_68 rfl ?_
          refine kw_iload_n C d_Picture_letsThin_69 rfl ?_
          refine kw_callVi (cl' := 0) (sl' := 0) (As := [.int a1]) C (c_Picture_isNumber hl n ids ht a1 σ12) mi_Picture_64 v_Picture_isNumber ⟨_, _, rfl⟩ ht ⟨Nat.le_of_ble_eq_true rfl, Nat.le_of_ble_eq_true rfl⟩ (Nat.le_of_ble_eq_true rfl) ⟨Nat.le_of_ble_eq_true rfl, Nat.le_of_ble_eq_true rfl⟩ ⟨rfl, rfl⟩ rfl d_Picture_letsThin_70 (fun x19 σ20 => ?_)
          refine kw_if_eq (tgt := 88) C d_Picture_letsThin_73 (by decide) ?_ ?_
          · exact kw_wk (hk16 () σ20) ⟨Or.inl rfl, Or.inl rfl, Or.inl rfl, Or.inl rfl, trivial⟩
          · refine kw_aload_n C d_Picture_letsThin_76 rfl ?_
            refine kw_iload_n C d_Picture_letsThin_77 rfl ?_
            refine kw_callVi (cl' := 0) (sl' := 0) (As := [.int a2]) C (c_Picture_isNumber hl n ids ht a2 σ20) mi_Picture_64 v_Picture_isNumber ⟨_, _, rfl⟩ ht ⟨Nat.le_of_ble_eq_true rfl, Nat.le_of_ble_eq_true rfl⟩ (Nat.le_of_ble_eq_true rfl) ⟨Nat.le_of_ble_eq_true rfl, Nat.le_of_ble_eq_true rfl⟩ ⟨rfl, rfl⟩ rfl d_Picture_letsThin_78 (fun x21 σ22 => ?_)
            refine kw_if_eq (tgt := 88) C d_Picture_letsThin_81 (by decide) ?_ ?_
            · exact kw_wk (hk16 () σ22) ⟨Or.inl rfl, Or.inl rfl, Or.inl rfl, Or.inl rfl, trivial⟩
            · refine kw_iconst (v := 1) C d_Picture_letsThin_84 (by decide) ?_
              refine kw_goto (tgt := 89) C d_Picture_letsThin_85 (by decide) ?_
              exact kw_wk (hk13 1 σ22) ⟨Or.inl rfl, Or.inl rfl, Or.inl rfl, Or.inl rfl, trivial⟩
  refine kw_sw ?_ (fun hn30 => ?_)
  · refine kw_tsIn (off := 86) (tgt := 90) C d_Picture_letsThin_4 (by decide) (by decide) (by decide) (by decide) ?_
    refine kw_iload_n C d_Picture_letsThin_90 rfl ?_
    refine kw_j (α := Int32) (pcj := 106) (Lj := fun x25 => [none, none, none, none]) (stj := fun x25 => [.int x25]) (fun x25 σ26 => ?_) (fun k24 hk24 => ?_)
    · exact kw_zret C Ce rfl (by simp) (fun _ _ => rfl) (Nat.le_of_ble_eq_true rfl) (Nat.le_of_ble_eq_true rfl) rfl d_Picture_letsThin_106
    · refine kw_j (α := Unit) (pcj := 105) (Lj := fun x28 => [none, none, none, none]) (stj := fun x28 => []) (fun x28 σ29 => ?_) (fun k27 hk27 => ?_)
      · refine kw_iconst (v := 0) C d_Picture_letsThin_105 (by decide) ?_
        exact kw_wk (hk24 0 σ29) ⟨Or.inl rfl, Or.inl rfl, Or.inl rfl, Or.inl rfl, trivial⟩
      · refine kw_if_lt (tgt := 105) C d_Picture_letsThin_91 (by decide) ?_ ?_
        · exact kw_wk (hk27 () σ) ⟨Or.inl rfl, Or.inl rfl, Or.inl rfl, Or.inl rfl, trivial⟩
        · refine kw_iload_n C d_Picture_letsThin_94 rfl ?_
          refine kw_sipush (v := 255) C d_Picture_letsThin_95 (by decide) ?_
          refine kw_icmp_gt (tgt := 105) C d_Picture_letsThin_98 (by decide) ?_ ?_
          · exact kw_wk (hk27 () σ) ⟨Or.inl rfl, Or.inl rfl, Or.inl rfl, Or.inl rfl, trivial⟩
          · refine kw_iconst (v := 1) C d_Picture_letsThin_101 (by decide) ?_
            refine kw_goto (tgt := 106) C d_Picture_letsThin_102 (by decide) ?_
            exact kw_wk (hk24 1 σ) ⟨Or.inl rfl, Or.inl rfl, Or.inl rfl, Or.inl rfl, trivial⟩
  · refine kw_tsOut (tgt := 107) C d_Picture_letsThin_4 (kw_tso (lo := 0) (hi := 3) (gS σ (64 * t + 2)) (fun k h1 h2 => by rcases (show k = 0 ∨ k = 1 ∨ k = 2 ∨ k = 3 by omega) with rfl | rfl | rfl | rfl; exact kw_ni hn9 (by decide); exact kw_ni hn10 (by decide); exact kw_ni hn23 (by decide); exact kw_ni hn30 (by decide))) (by decide) ?_
    refine kw_iconst (v := 0) C d_Picture_letsThin_107 (by decide) ?_
    exact kw_zret C Ce rfl (by simp) (fun _ _ => rfl) (Nat.le_of_ble_eq_true rfl) (Nat.le_of_ble_eq_true rfl) rfl d_Picture_letsThin_108
/-! PF_thin -/
def rm_PF_thin : Room := { frames := 7, cells := 3, slots := 18, locals := 109 }
def F_PF_thin (n : Nat) (t : Nat) (a0 : Int32) (a1 : Int32) (a2 : Int32) (σ : Mm) : Option ((Int32 ⊕ String) × Mm) :=
kf_t (F_PF_wantPicture n t σ) fun _ σ1 =>
Option.bind (gR σ1 (64 * t + 6)) fun o2 =>
kf_c2 (F_Picture_letsThin n o2 a0 a1 a2 σ1) fun x3 σ4 =>
if x3 = 0 then (
some (.inr "java/lang/IllegalArgumentException", σ4)) else (
Option.bind (gR σ4 (64 * t + 6)) fun o5 =>
kf_j (α := Unit) (fun x7 σ8 =>
Option.bind (gR σ8 (64 * t + 6)) fun o9 =>
Option.bind (F_Picture_addThin n o9 a0 σ8) fun σ10 =>
Option.bind (gR σ10 (64 * t + 6)) fun o11 =>
kf_j (α := Unit) (fun x13 σ14 =>
Option.bind (gR σ14 (64 * t + 6)) fun o15 =>
some (.inl (gS σ14 (64 * o15 + 7)), σ14)) fun k12 =>
if (gS σ10 (64 * o11 + 2)) = 2 then (
Option.bind (gR σ10 (64 * t + 6)) fun o16 =>
Option.bind (F_Picture_addThin n o16 a1 σ10) fun σ17 =>
Option.bind (gR σ17 (64 * t + 6)) fun o18 =>
Option.bind (F_Picture_addThin n o18 a2 σ17) fun σ19 =>
k12 () σ19) else (
k12 () σ10)) fun k6 =>
if (gS σ4 (64 * o5 + 2)) = 3 then (
Option.bind (gR σ4 (64 * t + 6)) fun o22 =>
Option.bind (gR σ4 (64 * t + 6)) fun o23 =>
if (gS σ4 (64 * o22 + 7)) < (gS σ4 (64 * o23 + 6)) then (
k6 () σ4) else (
some (.inr "java/lang/UnsupportedOperationException", σ4))) else (
Option.bind (gR σ4 (64 * t + 6)) fun o20 =>
kf_let (pS σ4 (64 * o20 + 7) 0) fun σ21 =>
k6 () σ21))
theorem d_PF_thin_0 : decode prog_1_method_13_code 0 = .ok (.aload_n 0, 1) := by decide +kernel
theorem d_PF_thin_1 : decode prog_1_method_13_code 1 = .ok (.invokevirtual 136, 3) := by decide +kernel
theorem d_PF_thin_4 : decode prog_1_method_13_code 4 = .ok (.aload_n 0, 1) := by decide +kernel
theorem d_PF_thin_5 : decode prog_1_method_13_code 5 = .ok (.getfield 65, 3) := by decide +kernel
theorem d_PF_thin_8 : decode prog_1_method_13_code 8 = .ok (.iload_n 1, 1) := by decide +kernel
theorem d_PF_thin_9 : decode prog_1_method_13_code 9 = .ok (.iload_n 2, 1) := by decide +kernel
theorem d_PF_thin_10 : decode prog_1_method_13_code 10 = .ok (.iload_n 3, 1) := by decide +kernel
theorem d_PF_thin_11 : decode prog_1_method_13_code 11 = .ok (.invokevirtual 190, 3) := by decide +kernel
theorem d_PF_thin_14 : decode prog_1_method_13_code 14 = .ok (.ifCond .ne 11, 3) := by decide +kernel
theorem d_PF_thin_17 : decode prog_1_method_13_code 17 = .ok (.new 88, 3) := by decide +kernel
theorem d_PF_thin_20 : decode prog_1_method_13_code 20 = .ok (.dup, 1) := by decide +kernel
theorem d_PF_thin_21 : decode prog_1_method_13_code 21 = .ok (.invokespecial 90, 3) := by decide +kernel
theorem d_PF_thin_24 : decode prog_1_method_13_code 24 = .ok (.athrow, 1) := by decide +kernel
theorem d_PF_thin_25 : decode prog_1_method_13_code 25 = .ok (.aload_n 0, 1) := by decide +kernel
theorem d_PF_thin_26 : decode prog_1_method_13_code 26 = .ok (.getfield 65, 3) := by decide +kernel
theorem d_PF_thin_29 : decode prog_1_method_13_code 29 = .ok (.getfield 145, 3) := by decide +kernel
theorem d_PF_thin_32 : decode prog_1_method_13_code 32 = .ok (.iconst 3, 1) := by decide +kernel
theorem d_PF_thin_33 : decode prog_1_method_13_code 33 = .ok (.if_icmp .ne 28, 3) := by decide +kernel
theorem d_PF_thin_36 : decode prog_1_method_13_code 36 = .ok (.aload_n 0, 1) := by decide +kernel
theorem d_PF_thin_37 : decode prog_1_method_13_code 37 = .ok (.getfield 65, 3) := by decide +kernel
theorem d_PF_thin_40 : decode prog_1_method_13_code 40 = .ok (.getfield 157, 3) := by decide +kernel
theorem d_PF_thin_43 : decode prog_1_method_13_code 43 = .ok (.aload_n 0, 1) := by decide +kernel
theorem d_PF_thin_44 : decode prog_1_method_13_code 44 = .ok (.getfield 65, 3) := by decide +kernel
theorem d_PF_thin_47 : decode prog_1_method_13_code 47 = .ok (.getfield 154, 3) := by decide +kernel
theorem d_PF_thin_50 : decode prog_1_method_13_code 50 = .ok (.if_icmp .lt 19, 3) := by decide +kernel
theorem d_PF_thin_53 : decode prog_1_method_13_code 53 = .ok (.new 81, 3) := by decide +kernel
theorem d_PF_thin_56 : decode prog_1_method_13_code 56 = .ok (.dup, 1) := by decide +kernel
theorem d_PF_thin_57 : decode prog_1_method_13_code 57 = .ok (.invokespecial 83, 3) := by decide +kernel
theorem d_PF_thin_60 : decode prog_1_method_13_code 60 = .ok (.athrow, 1) := by decide +kernel
theorem d_PF_thin_61 : decode prog_1_method_13_code 61 = .ok (.aload_n 0, 1) := by decide +kernel
theorem d_PF_thin_62 : decode prog_1_method_13_code 62 = .ok (.getfield 65, 3) := by decide +kernel
theorem d_PF_thin_65 : decode prog_1_method_13_code 65 = .ok (.iconst 0, 1) := by decide +kernel
theorem d_PF_thin_66 : decode prog_1_method_13_code 66 = .ok (.putfield 157, 3) := by decide +kernel
theorem d_PF_thin_69 : decode prog_1_method_13_code 69 = .ok (.aload_n 0, 1) := by decide +kernel
theorem d_PF_thin_70 : decode prog_1_method_13_code 70 = .ok (.getfield 65, 3) := by decide +kernel
theorem d_PF_thin_73 : decode prog_1_method_13_code 73 = .ok (.iload_n 1, 1) := by decide +kernel
theorem d_PF_thin_74 : decode prog_1_method_13_code 74 = .ok (.invokevirtual 194, 3) := by decide +kernel
theorem d_PF_thin_77 : decode prog_1_method_13_code 77 = .ok (.aload_n 0, 1) := by decide +kernel
theorem d_PF_thin_78 : decode prog_1_method_13_code 78 = .ok (.getfield 65, 3) := by decide +kernel
theorem d_PF_thin_81 : decode prog_1_method_13_code 81 = .ok (.getfield 145, 3) := by decide +kernel
theorem d_PF_thin_84 : decode prog_1_method_13_code 84 = .ok (.iconst 2, 1) := by decide +kernel
theorem d_PF_thin_85 : decode prog_1_method_13_code 85 = .ok (.if_icmp .ne 19, 3) := by decide +kernel
theorem d_PF_thin_88 : decode prog_1_method_13_code 88 = .ok (.aload_n 0, 1) := by decide +kernel
theorem d_PF_thin_89 : decode prog_1_method_13_code 89 = .ok (.getfield 65, 3) := by decide +kernel
theorem d_PF_thin_92 : decode prog_1_method_13_code 92 = .ok (.iload_n 2, 1) := by decide +kernel
theorem d_PF_thin_93 : decode prog_1_method_13_code 93 = .ok (.invokevirtual 194, 3) := by decide +kernel
theorem d_PF_thin_96 : decode prog_1_method_13_code 96 = .ok (.aload_n 0, 1) := by decide +kernel
theorem d_PF_thin_97 : decode prog_1_method_13_code 97 = .ok (.getfield 65, 3) := by decide +kernel
theorem d_PF_thin_100 : decode prog_1_method_13_code 100 = .ok (.iload_n 3, 1) := by decide +kernel
theorem d_PF_thin_101 : decode prog_1_method_13_code 101 = .ok (.invokevirtual 194, 3) := by decide +kernel
theorem d_PF_thin_104 : decode prog_1_method_13_code 104 = .ok (.aload_n 0, 1) := by decide +kernel
theorem d_PF_thin_105 : decode prog_1_method_13_code 105 = .ok (.getfield 65, 3) := by decide +kernel
theorem d_PF_thin_108 : decode prog_1_method_13_code 108 = .ok (.getfield 157, 3) := by decide +kernel
theorem d_PF_thin_111 : decode prog_1_method_13_code 111 = .ok (.ireturn, 1) := by decide +kernel
set_option maxRecDepth 100000 in
set_option maxHeartbeats 4000000 in
theorem c_PF_thin {l0 : Launch} (hl : l0.stackTraces = false) (n : Nat) (ids : List Nat) {t : Nat} (ht : mm_ok ids t 1 0) (a0 : Int32) (a1 : Int32) (a2 : Int32) (σ : Mm) : kw_C l0 y_PF_thin (Cond.code y_PF_thin prog_1_method_13_code 4 (some .int) :: kw_Ts) rm_PF_thin kw_oti ids [] [.ref t, .int a0, .int a1, .int a2] σ (F_PF_thin n t a0 a1 a2 σ) := by
  refine kw_start (L0 := [some (.ref t), some (.int a0), some (.int a1), some (.int a2)]) hl (by decide +kernel) (Nat.le_of_ble_eq_true rfl) rfl (fun Γ ad C Ce => ?_)
  unfold F_PF_thin
  refine kw_aload_n C d_PF_thin_0 rfl ?_
  refine kw_callVt (As := []) (cl' := 1) (sl' := 6) C Ce (fun _ _ => rfl) (c_PF_wantPicture hl n ids ht  σ) mi_PF_136 v_PF_wantPicture ⟨_, _, rfl⟩ ht ⟨Nat.le_of_ble_eq_true rfl, Nat.le_of_ble_eq_true rfl⟩ (Nat.le_of_ble_eq_true rfl) ⟨Nat.le_of_ble_eq_true rfl, Nat.le_of_ble_eq_true rfl⟩ ⟨rfl, rfl⟩ rfl (by simp) (fun _ _ => rfl) d_PF_thin_1 (fun _ σ1 => ?_)
  refine kw_aload_n C d_PF_thin_4 rfl ?_
  refine kw_getR C fi_PF_65 rfl rfl ht d_PF_thin_5 (fun o2 ho2 => ?_)
  refine kw_iload_n C d_PF_thin_8 rfl ?_
  refine kw_iload_n C d_PF_thin_9 rfl ?_
  refine kw_iload_n C d_PF_thin_10 rfl ?_
  refine kw_callVi (cl' := 1) (sl' := 6) (As := [.int a0, .int a1, .int a2]) C (c_Picture_letsThin hl n ids ho2 a0 a1 a2 σ1) mi_PF_190 v_Picture_letsThin ⟨_, _, rfl⟩ ho2 ⟨Nat.le_of_ble_eq_true rfl, Nat.le_of_ble_eq_true rfl⟩ (Nat.le_of_ble_eq_true rfl) ⟨Nat.le_of_ble_eq_true rfl, Nat.le_of_ble_eq_true rfl⟩ ⟨rfl, rfl⟩ rfl d_PF_thin_11 (fun x3 σ4 => ?_)
  refine kw_if_ne (tgt := 25) C d_PF_thin_14 (by decide) ?_ ?_
  · refine kw_aload_n C d_PF_thin_25 rfl ?_
    refine kw_getR C fi_PF_65 rfl rfl ht d_PF_thin_26 (fun o5 ho5 => ?_)
    refine kw_getI C fi_PF_145 (Or.inl rfl) ho5 d_PF_thin_29 ?_
    refine kw_iconst (v := 3) C d_PF_thin_32 (by decide) ?_
    refine kw_j (α := Unit) (pcj := 69) (Lj := fun x7 => [some (.ref t), some (.int a0), some (.int a1), some (.int a2)]) (stj := fun x7 => []) (fun x7 σ8 => ?_) (fun k6 hk6 => ?_)
    · refine kw_aload_n C d_PF_thin_69 rfl ?_
      refine kw_getR C fi_PF_65 rfl rfl ht d_PF_thin_70 (fun o9 ho9 => ?_)
      refine kw_iload_n C d_PF_thin_73 rfl ?_
      refine kw_callVv (cl' := 1) (sl' := 6) (As := [.int a0]) C (c_Picture_addThin hl n ids ho9 a0 σ8) mi_PF_194 v_Picture_addThin ⟨_, _, rfl⟩ ho9 ⟨Nat.le_of_ble_eq_true rfl, Nat.le_of_ble_eq_true rfl⟩ (Nat.le_of_ble_eq_true rfl) ⟨Nat.le_of_ble_eq_true rfl, Nat.le_of_ble_eq_true rfl⟩ ⟨rfl, rfl⟩ rfl d_PF_thin_74 (fun σ10 => ?_)
      refine kw_aload_n C d_PF_thin_77 rfl ?_
      refine kw_getR C fi_PF_65 rfl rfl ht d_PF_thin_78 (fun o11 ho11 => ?_)
      refine kw_getI C fi_PF_145 (Or.inl rfl) ho11 d_PF_thin_81 ?_
      refine kw_iconst (v := 2) C d_PF_thin_84 (by decide) ?_
      refine kw_j (α := Unit) (pcj := 104) (Lj := fun x13 => [some (.ref t), none, none, none]) (stj := fun x13 => []) (fun x13 σ14 => ?_) (fun k12 hk12 => ?_)
      · refine kw_aload_n C d_PF_thin_104 rfl ?_
        refine kw_getR C fi_PF_65 rfl rfl ht d_PF_thin_105 (fun o15 ho15 => ?_)
        refine kw_getI C fi_PF_157 (Or.inl rfl) ho15 d_PF_thin_108 ?_
        exact kw_iret C Ce rfl (by simp) (fun _ _ => rfl) (Nat.le_of_ble_eq_true rfl) (Nat.le_of_ble_eq_true rfl) rfl d_PF_thin_111
      · refine kw_icmp_ne (tgt := 104) C d_PF_thin_85 (by decide) ?_ ?_
        · exact kw_wk (hk12 () σ10) ⟨Or.inr rfl, Or.inl rfl, Or.inl rfl, Or.inl rfl, trivial⟩
        · refine kw_aload_n C d_PF_thin_88 rfl ?_
          refine kw_getR C fi_PF_65 rfl rfl ht d_PF_thin_89 (fun o16 ho16 => ?_)
          refine kw_iload_n C d_PF_thin_92 rfl ?_
          refine kw_callVv (cl' := 1) (sl' := 6) (As := [.int a1]) C (c_Picture_addThin hl n ids ho16 a1 σ10) mi_PF_194 v_Picture_addThin ⟨_, _, rfl⟩ ho16 ⟨Nat.le_of_ble_eq_true rfl, Nat.le_of_ble_eq_true rfl⟩ (Nat.le_of_ble_eq_true rfl) ⟨Nat.le_of_ble_eq_true rfl, Nat.le_of_ble_eq_true rfl⟩ ⟨rfl, rfl⟩ rfl d_PF_thin_93 (fun σ17 => ?_)
          refine kw_aload_n C d_PF_thin_96 rfl ?_
          refine kw_getR C fi_PF_65 rfl rfl ht d_PF_thin_97 (fun o18 ho18 => ?_)
          refine kw_iload_n C d_PF_thin_100 rfl ?_
          refine kw_callVv (cl' := 1) (sl' := 6) (As := [.int a2]) C (c_Picture_addThin hl n ids ho18 a2 σ17) mi_PF_194 v_Picture_addThin ⟨_, _, rfl⟩ ho18 ⟨Nat.le_of_ble_eq_true rfl, Nat.le_of_ble_eq_true rfl⟩ (Nat.le_of_ble_eq_true rfl) ⟨Nat.le_of_ble_eq_true rfl, Nat.le_of_ble_eq_true rfl⟩ ⟨rfl, rfl⟩ rfl d_PF_thin_101 (fun σ19 => ?_)
          exact kw_wk (hk12 () σ19) ⟨Or.inr rfl, Or.inl rfl, Or.inl rfl, Or.inl rfl, trivial⟩
    · refine kw_icmp_ne (tgt := 61) C d_PF_thin_33 (by decide) ?_ ?_
      · refine kw_aload_n C d_PF_thin_61 rfl ?_
        refine kw_getR C fi_PF_65 rfl rfl ht d_PF_thin_62 (fun o20 ho20 => ?_)
        refine kw_iconst (v := 0) C d_PF_thin_65 (by decide) ?_
        refine kw_putI C fi_PF_157 rfl ho20 d_PF_thin_66 (fun σ21 => ?_)
        exact kw_wk (hk6 () σ21) ⟨Or.inr rfl, Or.inr rfl, Or.inr rfl, Or.inr rfl, trivial⟩
      · refine kw_aload_n C d_PF_thin_36 rfl ?_
        refine kw_getR C fi_PF_65 rfl rfl ht d_PF_thin_37 (fun o22 ho22 => ?_)
        refine kw_getI C fi_PF_157 (Or.inl rfl) ho22 d_PF_thin_40 ?_
        refine kw_aload_n C d_PF_thin_43 rfl ?_
        refine kw_getR C fi_PF_65 rfl rfl ht d_PF_thin_44 (fun o23 ho23 => ?_)
        refine kw_getI C fi_PF_154 (Or.inl rfl) ho23 d_PF_thin_47 ?_
        refine kw_icmp_lt (tgt := 69) C d_PF_thin_50 (by decide) ?_ ?_
        · exact kw_wk (hk6 () σ4) ⟨Or.inr rfl, Or.inr rfl, Or.inr rfl, Or.inr rfl, trivial⟩
        · exact kw_throw0 C Ce ti_PF_81_83 (by simp) (fun _ _ => rfl) (Nat.le_of_ble_eq_true rfl) (Nat.le_of_ble_eq_true rfl) (Nat.le_of_ble_eq_true rfl) (Nat.le_of_ble_eq_true rfl) d_PF_thin_53 d_PF_thin_56 d_PF_thin_57 d_PF_thin_60 rfl
  · exact kw_throw0 C Ce ti_PF_88_90 (by simp) (fun _ _ => rfl) (Nat.le_of_ble_eq_true rfl) (Nat.le_of_ble_eq_true rfl) (Nat.le_of_ble_eq_true rfl) (Nat.le_of_ble_eq_true rfl) d_PF_thin_17 d_PF_thin_20 d_PF_thin_21 d_PF_thin_24 rfl
/-! PF_ofThin -/
def rm_PF_ofThin : Room := { frames := 7, cells := 2, slots := 12, locals := 109 }
def F_PF_ofThin (n : Nat) (t : Nat) (a0 : Int32) (σ : Mm) : Option ((Int32 ⊕ String) × Mm) :=
kf_t (F_PF_wantPicture n t σ) fun _ σ1 =>
kf_j (α := Unit) (fun x3 σ4 =>
some (.inr "java/lang/IndexOutOfBoundsException", σ4)) fun k2 =>
if a0 < 0 then (
k2 () σ1) else (
Option.bind (gR σ1 (64 * t + 6)) fun o5 =>
if a0 < (gS σ1 (64 * o5 + 7)) then (
Option.bind (gR σ1 (64 * t + 6)) fun o6 =>
Option.bind (gR σ1 (64 * o6 + 10)) fun o7 =>
kf_in a0 (mm_kd o7).2.2 <|
some (.inl (gB σ1 o7 a0.toNatClampNeg), σ1)) else (
k2 () σ1))
theorem d_PF_ofThin_0 : decode prog_1_method_14_code 0 = .ok (.aload_n 0, 1) := by decide +kernel
theorem d_PF_ofThin_1 : decode prog_1_method_14_code 1 = .ok (.invokevirtual 136, 3) := by decide +kernel
theorem d_PF_ofThin_4 : decode prog_1_method_14_code 4 = .ok (.iload_n 1, 1) := by decide +kernel
theorem d_PF_ofThin_5 : decode prog_1_method_14_code 5 = .ok (.ifCond .lt 14, 3) := by decide +kernel
theorem d_PF_ofThin_8 : decode prog_1_method_14_code 8 = .ok (.iload_n 1, 1) := by decide +kernel
theorem d_PF_ofThin_9 : decode prog_1_method_14_code 9 = .ok (.aload_n 0, 1) := by decide +kernel
theorem d_PF_ofThin_10 : decode prog_1_method_14_code 10 = .ok (.getfield 65, 3) := by decide +kernel
theorem d_PF_ofThin_13 : decode prog_1_method_14_code 13 = .ok (.getfield 157, 3) := by decide +kernel
theorem d_PF_ofThin_16 : decode prog_1_method_14_code 16 = .ok (.if_icmp .lt 11, 3) := by decide +kernel
theorem d_PF_ofThin_19 : decode prog_1_method_14_code 19 = .ok (.new 177, 3) := by decide +kernel
theorem d_PF_ofThin_22 : decode prog_1_method_14_code 22 = .ok (.dup, 1) := by decide +kernel
theorem d_PF_ofThin_23 : decode prog_1_method_14_code 23 = .ok (.invokespecial 179, 3) := by decide +kernel
theorem d_PF_ofThin_26 : decode prog_1_method_14_code 26 = .ok (.athrow, 1) := by decide +kernel
theorem d_PF_ofThin_27 : decode prog_1_method_14_code 27 = .ok (.aload_n 0, 1) := by decide +kernel
theorem d_PF_ofThin_28 : decode prog_1_method_14_code 28 = .ok (.getfield 65, 3) := by decide +kernel
theorem d_PF_ofThin_31 : decode prog_1_method_14_code 31 = .ok (.getfield 197, 3) := by decide +kernel
theorem d_PF_ofThin_34 : decode prog_1_method_14_code 34 = .ok (.iload_n 1, 1) := by decide +kernel
theorem d_PF_ofThin_35 : decode prog_1_method_14_code 35 = .ok (.iaload, 1) := by decide +kernel
theorem d_PF_ofThin_36 : decode prog_1_method_14_code 36 = .ok (.ireturn, 1) := by decide +kernel
set_option maxRecDepth 100000 in
set_option maxHeartbeats 4000000 in
theorem c_PF_ofThin {l0 : Launch} (hl : l0.stackTraces = false) (n : Nat) (ids : List Nat) {t : Nat} (ht : mm_ok ids t 1 0) (a0 : Int32) (σ : Mm) : kw_C l0 y_PF_ofThin (Cond.code y_PF_ofThin prog_1_method_14_code 2 (some .int) :: kw_Ts) rm_PF_ofThin kw_oti ids [] [.ref t, .int a0] σ (F_PF_ofThin n t a0 σ) := by
  refine kw_start (L0 := [some (.ref t), some (.int a0)]) hl (by decide +kernel) (Nat.le_of_ble_eq_true rfl) rfl (fun Γ ad C Ce => ?_)
  unfold F_PF_ofThin
  refine kw_aload_n C d_PF_ofThin_0 rfl ?_
  refine kw_callVt (As := []) (cl' := 1) (sl' := 6) C Ce (fun _ _ => rfl) (c_PF_wantPicture hl n ids ht  σ) mi_PF_136 v_PF_wantPicture ⟨_, _, rfl⟩ ht ⟨Nat.le_of_ble_eq_true rfl, Nat.le_of_ble_eq_true rfl⟩ (Nat.le_of_ble_eq_true rfl) ⟨Nat.le_of_ble_eq_true rfl, Nat.le_of_ble_eq_true rfl⟩ ⟨rfl, rfl⟩ rfl (by simp) (fun _ _ => rfl) d_PF_ofThin_1 (fun _ σ1 => ?_)
  refine kw_iload_n C d_PF_ofThin_4 rfl ?_
  refine kw_j (α := Unit) (pcj := 19) (Lj := fun x3 => [none, none]) (stj := fun x3 => []) (fun x3 σ4 => ?_) (fun k2 hk2 => ?_)
  · exact kw_throw0 C Ce ti_PF_177_179 (by simp) (fun _ _ => rfl) (Nat.le_of_ble_eq_true rfl) (Nat.le_of_ble_eq_true rfl) (Nat.le_of_ble_eq_true rfl) (Nat.le_of_ble_eq_true rfl) d_PF_ofThin_19 d_PF_ofThin_22 d_PF_ofThin_23 d_PF_ofThin_26 rfl
  · refine kw_if_lt (tgt := 19) C d_PF_ofThin_5 (by decide) ?_ ?_
    · exact kw_wk (hk2 () σ1) ⟨Or.inl rfl, Or.inl rfl, trivial⟩
    · refine kw_iload_n C d_PF_ofThin_8 rfl ?_
      refine kw_aload_n C d_PF_ofThin_9 rfl ?_
      refine kw_getR C fi_PF_65 rfl rfl ht d_PF_ofThin_10 (fun o5 ho5 => ?_)
      refine kw_getI C fi_PF_157 (Or.inl rfl) ho5 d_PF_ofThin_13 ?_
      refine kw_icmp_lt (tgt := 27) C d_PF_ofThin_16 (by decide) ?_ ?_
      · refine kw_aload_n C d_PF_ofThin_27 rfl ?_
        refine kw_getR C fi_PF_65 rfl rfl ht d_PF_ofThin_28 (fun o6 ho6 => ?_)
        refine kw_getR C fi_PF_197 rfl rfl ho6 d_PF_ofThin_31 (fun o7 ho7 => ?_)
        refine kw_iload_n C d_PF_ofThin_34 rfl ?_
        refine kw_iald C (Or.inl ⟨ho7.1, ho7.2.1⟩) d_PF_ofThin_35 ?_
        exact kw_iret C Ce rfl (by simp) (fun _ _ => rfl) (Nat.le_of_ble_eq_true rfl) (Nat.le_of_ble_eq_true rfl) rfl d_PF_ofThin_36
      · exact kw_wk (hk2 () σ1) ⟨Or.inl rfl, Or.inl rfl, trivial⟩
/-! Rows_putSample -/
def rm_Rows_putSample : Room := { frames := 0, cells := 0, slots := 0, locals := 0 }
def F_Rows_putSample (n : Nat) (t : Nat) (a0 : Int32) (a1 : Int32) (a2 : Int32) (a3 : Int32) (σ : Mm) : Option (Mm) :=
if a2 = 16 then (
Option.bind (gR σ (64 * t + 1)) fun o5 =>
kf_in (a0 + ((2 : Int32) * a1)) (mm_kd o5).2.2 <| kf_let (pB σ o5 (a0 + ((2 : Int32) * a1)).toNatClampNeg (a3 >>> (8 &&& 31))) fun σ6 =>
Option.bind (gR σ6 (64 * t + 1)) fun o7 =>
kf_in ((a0 + ((2 : Int32) * a1)) + 1) (mm_kd o7).2.2 <| kf_let (pB σ6 o7 ((a0 + ((2 : Int32) * a1)) + 1).toNatClampNeg (a3 &&& 255)) fun σ8 =>
some σ8) else (
kf_let (a1 * a2 : Int32) fun x1 =>
Option.bind (gR σ (64 * t + 1)) fun o2 =>
kf_nz 8 <|
kf_let (a0 + (x1 / 8) : Int32) fun x3 =>
kf_in x3 (mm_kd o2).2.2 <|
kf_nz 8 <|
kf_in x3 (mm_kd o2).2.2 <| kf_let (pB σ o2 x3.toNatClampNeg ((gB σ o2 x3.toNatClampNeg) ||| (a3 <<< ((((8 : Int32) - a2) - (x1 - x1 / 8 * 8)) &&& 31)))) fun σ4 =>
some σ4)
theorem d_Rows_putSample_0 : decode prog_9_method_3_code 0 = .ok (.iload_n 3, 1) := by decide +kernel
theorem d_Rows_putSample_1 : decode prog_9_method_3_code 1 = .ok (.bipush 16, 2) := by decide +kernel
theorem d_Rows_putSample_3 : decode prog_9_method_3_code 3 = .ok (.if_icmp .ne 37, 3) := by decide +kernel
theorem d_Rows_putSample_6 : decode prog_9_method_3_code 6 = .ok (.aload_n 0, 1) := by decide +kernel
theorem d_Rows_putSample_7 : decode prog_9_method_3_code 7 = .ok (.getfield 16, 3) := by decide +kernel
theorem d_Rows_putSample_10 : decode prog_9_method_3_code 10 = .ok (.iload_n 1, 1) := by decide +kernel
theorem d_Rows_putSample_11 : decode prog_9_method_3_code 11 = .ok (.iconst 2, 1) := by decide +kernel
theorem d_Rows_putSample_12 : decode prog_9_method_3_code 12 = .ok (.iload_n 2, 1) := by decide +kernel
theorem d_Rows_putSample_13 : decode prog_9_method_3_code 13 = .ok (.imul, 1) := by decide +kernel
theorem d_Rows_putSample_14 : decode prog_9_method_3_code 14 = .ok (.iadd, 1) := by decide +kernel
theorem d_Rows_putSample_15 : decode prog_9_method_3_code 15 = .ok (.iload 4, 2) := by decide +kernel
theorem d_Rows_putSample_17 : decode prog_9_method_3_code 17 = .ok (.bipush 8, 2) := by decide +kernel
theorem d_Rows_putSample_19 : decode prog_9_method_3_code 19 = .ok (.ishr, 1) := by decide +kernel
theorem d_Rows_putSample_20 : decode prog_9_method_3_code 20 = .ok (.iastore, 1) := by decide +kernel
theorem d_Rows_putSample_21 : decode prog_9_method_3_code 21 = .ok (.aload_n 0, 1) := by decide +kernel
theorem d_Rows_putSample_22 : decode prog_9_method_3_code 22 = .ok (.getfield 16, 3) := by decide +kernel
theorem d_Rows_putSample_25 : decode prog_9_method_3_code 25 = .ok (.iload_n 1, 1) := by decide +kernel
theorem d_Rows_putSample_26 : decode prog_9_method_3_code 26 = .ok (.iconst 2, 1) := by decide +kernel
theorem d_Rows_putSample_27 : decode prog_9_method_3_code 27 = .ok (.iload_n 2, 1) := by decide +kernel
theorem d_Rows_putSample_28 : decode prog_9_method_3_code 28 = .ok (.imul, 1) := by decide +kernel
theorem d_Rows_putSample_29 : decode prog_9_method_3_code 29 = .ok (.iadd, 1) := by decide +kernel
theorem d_Rows_putSample_30 : decode prog_9_method_3_code 30 = .ok (.iconst 1, 1) := by decide +kernel
theorem d_Rows_putSample_31 : decode prog_9_method_3_code 31 = .ok (.iadd, 1) := by decide +kernel
theorem d_Rows_putSample_32 : decode prog_9_method_3_code 32 = .ok (.iload 4, 2) := by decide +kernel
theorem d_Rows_putSample_34 : decode prog_9_method_3_code 34 = .ok (.sipush 255, 3) := by decide +kernel
theorem d_Rows_putSample_37 : decode prog_9_method_3_code 37 = .ok (.iand, 1) := by decide +kernel
theorem d_Rows_putSample_38 : decode prog_9_method_3_code 38 = .ok (.iastore, 1) := by decide +kernel
theorem d_Rows_putSample_39 : decode prog_9_method_3_code 39 = .ok (.return_, 1) := by decide +kernel
theorem d_Rows_putSample_40 : decode prog_9_method_3_code 40 = .ok (.iload_n 2, 1) := by decide +kernel
theorem d_Rows_putSample_41 : decode prog_9_method_3_code 41 = .ok (.iload_n 3, 1) := by decide +kernel
theorem d_Rows_putSample_42 : decode prog_9_method_3_code 42 = .ok (.imul, 1) := by decide +kernel
theorem d_Rows_putSample_43 : decode prog_9_method_3_code 43 = .ok (.istore 5, 2) := by decide +kernel
theorem d_Rows_putSample_45 : decode prog_9_method_3_code 45 = .ok (.aload_n 0, 1) := by decide +kernel
theorem d_Rows_putSample_46 : decode prog_9_method_3_code 46 = .ok (.getfield 16, 3) := by decide +kernel
theorem d_Rows_putSample_49 : decode prog_9_method_3_code 49 = .ok (.iload_n 1, 1) := by decide +kernel
theorem d_Rows_putSample_50 : decode prog_9_method_3_code 50 = .ok (.iload 5, 2) := by decide +kernel
theorem d_Rows_putSample_52 : decode prog_9_method_3_code 52 = .ok (.bipush 8, 2) := by decide +kernel
theorem d_Rows_putSample_54 : decode prog_9_method_3_code 54 = .ok (.idiv, 1) := by decide +kernel
theorem d_Rows_putSample_55 : decode prog_9_method_3_code 55 = .ok (.iadd, 1) := by decide +kernel
theorem d_Rows_putSample_56 : decode prog_9_method_3_code 56 = .ok (.dup2, 1) := by decide +kernel
theorem d_Rows_putSample_57 : decode prog_9_method_3_code 57 = .ok (.iaload, 1) := by decide +kernel
theorem d_Rows_putSample_58 : decode prog_9_method_3_code 58 = .ok (.iload 4, 2) := by decide +kernel
theorem d_Rows_putSample_60 : decode prog_9_method_3_code 60 = .ok (.bipush 8, 2) := by decide +kernel
theorem d_Rows_putSample_62 : decode prog_9_method_3_code 62 = .ok (.iload_n 3, 1) := by decide +kernel
theorem d_Rows_putSample_63 : decode prog_9_method_3_code 63 = .ok (.isub, 1) := by decide +kernel
theorem d_Rows_putSample_64 : decode prog_9_method_3_code 64 = .ok (.iload 5, 2) := by decide +kernel
theorem d_Rows_putSample_66 : decode prog_9_method_3_code 66 = .ok (.bipush 8, 2) := by decide +kernel
theorem d_Rows_putSample_68 : decode prog_9_method_3_code 68 = .ok (.irem, 1) := by decide +kernel
theorem d_Rows_putSample_69 : decode prog_9_method_3_code 69 = .ok (.isub, 1) := by decide +kernel
theorem d_Rows_putSample_70 : decode prog_9_method_3_code 70 = .ok (.ishl, 1) := by decide +kernel
theorem d_Rows_putSample_71 : decode prog_9_method_3_code 71 = .ok (.ior, 1) := by decide +kernel
theorem d_Rows_putSample_72 : decode prog_9_method_3_code 72 = .ok (.iastore, 1) := by decide +kernel
theorem d_Rows_putSample_73 : decode prog_9_method_3_code 73 = .ok (.return_, 1) := by decide +kernel
set_option maxRecDepth 100000 in
set_option maxHeartbeats 4000000 in
theorem c_Rows_putSample {l0 : Launch} (hl : l0.stackTraces = false) (n : Nat) (ids : List Nat) {t : Nat} (ht : mm_ok ids t 1 3) (a0 : Int32) (a1 : Int32) (a2 : Int32) (a3 : Int32) (σ : Mm) : kw_C l0 y_Rows_putSample (Cond.code y_Rows_putSample prog_9_method_3_code 6 none :: kw_Ts) rm_Rows_putSample kw_ov ids [] [.ref t, .int a0, .int a1, .int a2, .int a3] σ (F_Rows_putSample n t a0 a1 a2 a3 σ) := by
  refine kw_start (L0 := [some (.ref t), some (.int a0), some (.int a1), some (.int a2), some (.int a3), none]) hl (by decide +kernel) (Nat.le_of_ble_eq_true rfl) rfl (fun Γ ad C Ce => ?_)
  unfold F_Rows_putSample
  refine kw_iload_n C d_Rows_putSample_0 rfl ?_
  refine kw_bipush (v := 16) C d_Rows_putSample_1 (by decide) ?_
  refine kw_icmp_ne (tgt := 40) C d_Rows_putSample_3 (by decide) ?_ ?_
  · refine kw_iload_n C d_Rows_putSample_40 rfl ?_
    refine kw_iload_n C d_Rows_putSample_41 rfl ?_
    refine kw_imul C d_Rows_putSample_42 ?_
    refine kw_leti (fun x1 => ?_)
    refine kw_istore (L' := [some (.ref t), some (.int a0), some (.int a1), some (.int a2), some (.int a3), some (.int x1)]) C d_Rows_putSample_43 (by decide) rfl ?_
    refine kw_aload_n C d_Rows_putSample_45 rfl ?_
    refine kw_getR C fi_Rows_16 rfl rfl ht d_Rows_putSample_46 (fun o2 ho2 => ?_)
    refine kw_iload_n C d_Rows_putSample_49 rfl ?_
    refine kw_iload C d_Rows_putSample_50 rfl ?_
    refine kw_bipush (v := 8) C d_Rows_putSample_52 (by decide) ?_
    refine kw_idiv C d_Rows_putSample_54 ?_
    refine kw_iadd C d_Rows_putSample_55 ?_
    refine kw_leti (fun x3 => ?_)
    refine kw_dup2 C d_Rows_putSample_56 rfl rfl ?_
    refine kw_iald C (Or.inl ⟨ho2.1, ho2.2.1⟩) d_Rows_putSample_57 ?_
    refine kw_iload C d_Rows_putSample_58 rfl ?_
    refine kw_bipush (v := 8) C d_Rows_putSample_60 (by decide) ?_
    refine kw_iload_n C d_Rows_putSample_62 rfl ?_
    refine kw_isub C d_Rows_putSample_63 ?_
    refine kw_iload C d_Rows_putSample_64 rfl ?_
    refine kw_bipush (v := 8) C d_Rows_putSample_66 (by decide) ?_
    refine kw_irem C d_Rows_putSample_68 ?_
    refine kw_isub C d_Rows_putSample_69 ?_
    refine kw_ishl C d_Rows_putSample_70 ?_
    refine kw_ior C d_Rows_putSample_71 ?_
    refine kw_iast C ho2 d_Rows_putSample_72 (fun σ4 => ?_)
    exact kw_vret C Ce rfl (by simp) (fun _ _ => rfl) (Nat.le_of_ble_eq_true rfl) (Nat.le_of_ble_eq_true rfl) rfl d_Rows_putSample_73
  · refine kw_aload_n C d_Rows_putSample_6 rfl ?_
    refine kw_getR C fi_Rows_16 rfl rfl ht d_Rows_putSample_7 (fun o5 ho5 => ?_)
    refine kw_iload_n C d_Rows_putSample_10 rfl ?_
    refine kw_iconst (v := 2) C d_Rows_putSample_11 (by decide) ?_
    refine kw_iload_n C d_Rows_putSample_12 rfl ?_
    refine kw_imul C d_Rows_putSample_13 ?_
    refine kw_iadd C d_Rows_putSample_14 ?_
    refine kw_iload C d_Rows_putSample_15 rfl ?_
    refine kw_bipush (v := 8) C d_Rows_putSample_17 (by decide) ?_
    refine kw_ishr C d_Rows_putSample_19 ?_
    refine kw_iast C ho5 d_Rows_putSample_20 (fun σ6 => ?_)
    refine kw_aload_n C d_Rows_putSample_21 rfl ?_
    refine kw_getR C fi_Rows_16 rfl rfl ht d_Rows_putSample_22 (fun o7 ho7 => ?_)
    refine kw_iload_n C d_Rows_putSample_25 rfl ?_
    refine kw_iconst (v := 2) C d_Rows_putSample_26 (by decide) ?_
    refine kw_iload_n C d_Rows_putSample_27 rfl ?_
    refine kw_imul C d_Rows_putSample_28 ?_
    refine kw_iadd C d_Rows_putSample_29 ?_
    refine kw_iconst (v := 1) C d_Rows_putSample_30 (by decide) ?_
    refine kw_iadd C d_Rows_putSample_31 ?_
    refine kw_iload C d_Rows_putSample_32 rfl ?_
    refine kw_sipush (v := 255) C d_Rows_putSample_34 (by decide) ?_
    refine kw_iand C d_Rows_putSample_37 ?_
    refine kw_iast C ho7 d_Rows_putSample_38 (fun σ8 => ?_)
    exact kw_vret C Ce rfl (by simp) (fun _ _ => rfl) (Nat.le_of_ble_eq_true rfl) (Nat.le_of_ble_eq_true rfl) rfl d_Rows_putSample_39
/-! Rows_gather -/
def rm_Rows_gather : Room := { frames := 1, cells := 0, slots := 0, locals := 25 }
def F_Rows_gather (n : Nat) (t : Nat) (r0 : Nat) (a1 : Int32) (σ : Mm) : Option (Mm) :=
Option.bind (gR σ (64 * r0 + 11)) fun o1 =>
Option.bind (gR σ (64 * o1 + 7)) fun o2 =>
kf_in a1 (mm_kd o2).2.2 <|
kf_let ((gB σ o2 a1.toNatClampNeg) + 1 : Int32) fun x3 =>
kf_l (α := Int32) n (fun k4 x5 σ6 =>
Option.bind (gR σ6 (64 * o1 + 8)) fun o7 =>
kf_in a1 (mm_kd o7).2.2 <|
if (gB σ6 o7 a1.toNatClampNeg) ≤ x5 then (
kf_l (α := Int32 × Int32) n (fun k8 x9 σ10 =>
Option.bind (gR σ10 (64 * o1 + 6)) fun o11 =>
kf_in a1 (mm_kd o11).2.2 <|
if (gB σ10 o11 a1.toNatClampNeg) ≤ x9.2 then (
some σ10) else (
Option.bind (gR σ10 (64 * o1 + 3)) fun o12 =>
kf_in a1 (mm_kd o12).2.2 <|
Option.bind (gR σ10 (64 * o1 + 5)) fun o13 =>
kf_in a1 (mm_kd o13).2.2 <|
Option.bind (gR σ10 (64 * o1 + 4)) fun o14 =>
kf_in a1 (mm_kd o14).2.2 <|
kf_c2 (F_Picture_indexOf n r0 ((gB σ10 o12 a1.toNatClampNeg) + (x9.2 * (gB σ10 o13 a1.toNatClampNeg))) (gB σ10 o14 a1.toNatClampNeg) σ10) fun x15 σ16 =>
kf_l (α := Int32 × Int32) n (fun k17 x18 σ19 =>
if (gS σ19 (64 * r0 + 5)) ≤ x18.2 then (
kf_let (x9.2 + Int32.ofInt 1) fun x20 =>
k8 (x18.1, x20) σ19) else (
Option.bind (gR σ19 (64 * r0 + 8)) fun o21 =>
kf_let (x15 + x18.2 : Int32) fun x22 =>
kf_in x22 (mm_kd o21).2.2 <|
Option.bind (F_Rows_putSample n t x3 x18.1 (gS σ19 (64 * r0 + 3)) (gB σ19 o21 x22.toNatClampNeg) σ19) fun σ23 =>
kf_let (x18.1 + Int32.ofInt 1) fun x24 =>
kf_let (x18.2 + Int32.ofInt 1) fun x25 =>
k17 (x24, x25) σ23)) (x9.1, 0) σ16)) (0, 0) σ6) else (
Option.bind (gR σ6 (64 * t + 1)) fun o26 =>
kf_in (x3 + x5) (mm_kd o26).2.2 <| kf_let (pB σ6 o26 (x3 + x5).toNatClampNeg 0) fun σ27 =>
kf_let (x5 + Int32.ofInt 1) fun x28 =>
k4 x28 σ27)) 0 σ
theorem d_Rows_gather_0 : decode prog_9_method_2_code 0 = .ok (.aload_n 1, 1) := by decide +kernel
theorem d_Rows_gather_1 : decode prog_9_method_2_code 1 = .ok (.getfield 19, 3) := by decide +kernel
theorem d_Rows_gather_4 : decode prog_9_method_2_code 4 = .ok (.astore_n 3, 1) := by decide +kernel
theorem d_Rows_gather_5 : decode prog_9_method_2_code 5 = .ok (.aload_n 3, 1) := by decide +kernel
theorem d_Rows_gather_6 : decode prog_9_method_2_code 6 = .ok (.getfield 25, 3) := by decide +kernel
theorem d_Rows_gather_9 : decode prog_9_method_2_code 9 = .ok (.iload_n 2, 1) := by decide +kernel
theorem d_Rows_gather_10 : decode prog_9_method_2_code 10 = .ok (.iaload, 1) := by decide +kernel
theorem d_Rows_gather_11 : decode prog_9_method_2_code 11 = .ok (.iconst 1, 1) := by decide +kernel
theorem d_Rows_gather_12 : decode prog_9_method_2_code 12 = .ok (.iadd, 1) := by decide +kernel
theorem d_Rows_gather_13 : decode prog_9_method_2_code 13 = .ok (.istore 4, 2) := by decide +kernel
theorem d_Rows_gather_15 : decode prog_9_method_2_code 15 = .ok (.iconst 0, 1) := by decide +kernel
theorem d_Rows_gather_16 : decode prog_9_method_2_code 16 = .ok (.istore 5, 2) := by decide +kernel
theorem d_Rows_gather_18 : decode prog_9_method_2_code 18 = .ok (.iload 5, 2) := by decide +kernel
theorem d_Rows_gather_20 : decode prog_9_method_2_code 20 = .ok (.aload_n 3, 1) := by decide +kernel
theorem d_Rows_gather_21 : decode prog_9_method_2_code 21 = .ok (.getfield 28, 3) := by decide +kernel
theorem d_Rows_gather_24 : decode prog_9_method_2_code 24 = .ok (.iload_n 2, 1) := by decide +kernel
theorem d_Rows_gather_25 : decode prog_9_method_2_code 25 = .ok (.iaload, 1) := by decide +kernel
theorem d_Rows_gather_26 : decode prog_9_method_2_code 26 = .ok (.if_icmp .ge 20, 3) := by decide +kernel
theorem d_Rows_gather_29 : decode prog_9_method_2_code 29 = .ok (.aload_n 0, 1) := by decide +kernel
theorem d_Rows_gather_30 : decode prog_9_method_2_code 30 = .ok (.getfield 16, 3) := by decide +kernel
theorem d_Rows_gather_33 : decode prog_9_method_2_code 33 = .ok (.iload 4, 2) := by decide +kernel
theorem d_Rows_gather_35 : decode prog_9_method_2_code 35 = .ok (.iload 5, 2) := by decide +kernel
theorem d_Rows_gather_37 : decode prog_9_method_2_code 37 = .ok (.iadd, 1) := by decide +kernel
theorem d_Rows_gather_38 : decode prog_9_method_2_code 38 = .ok (.iconst 0, 1) := by decide +kernel
theorem d_Rows_gather_39 : decode prog_9_method_2_code 39 = .ok (.iastore, 1) := by decide +kernel
theorem d_Rows_gather_40 : decode prog_9_method_2_code 40 = .ok (.iinc 5 1, 3) := by decide +kernel
theorem d_Rows_gather_43 : decode prog_9_method_2_code 43 = .ok (.goto (-25), 3) := by decide +kernel
theorem d_Rows_gather_46 : decode prog_9_method_2_code 46 = .ok (.iconst 0, 1) := by decide +kernel
theorem d_Rows_gather_47 : decode prog_9_method_2_code 47 = .ok (.istore 5, 2) := by decide +kernel
theorem d_Rows_gather_49 : decode prog_9_method_2_code 49 = .ok (.iconst 0, 1) := by decide +kernel
theorem d_Rows_gather_50 : decode prog_9_method_2_code 50 = .ok (.istore 6, 2) := by decide +kernel
theorem d_Rows_gather_52 : decode prog_9_method_2_code 52 = .ok (.iload 6, 2) := by decide +kernel
theorem d_Rows_gather_54 : decode prog_9_method_2_code 54 = .ok (.aload_n 3, 1) := by decide +kernel
theorem d_Rows_gather_55 : decode prog_9_method_2_code 55 = .ok (.getfield 31, 3) := by decide +kernel
theorem d_Rows_gather_58 : decode prog_9_method_2_code 58 = .ok (.iload_n 2, 1) := by decide +kernel
theorem d_Rows_gather_59 : decode prog_9_method_2_code 59 = .ok (.iaload, 1) := by decide +kernel
theorem d_Rows_gather_60 : decode prog_9_method_2_code 60 = .ok (.if_icmp .ge 80, 3) := by decide +kernel
theorem d_Rows_gather_63 : decode prog_9_method_2_code 63 = .ok (.aload_n 1, 1) := by decide +kernel
theorem d_Rows_gather_64 : decode prog_9_method_2_code 64 = .ok (.aload_n 3, 1) := by decide +kernel
theorem d_Rows_gather_65 : decode prog_9_method_2_code 65 = .ok (.getfield 34, 3) := by decide +kernel
theorem d_Rows_gather_68 : decode prog_9_method_2_code 68 = .ok (.iload_n 2, 1) := by decide +kernel
theorem d_Rows_gather_69 : decode prog_9_method_2_code 69 = .ok (.iaload, 1) := by decide +kernel
theorem d_Rows_gather_70 : decode prog_9_method_2_code 70 = .ok (.iload 6, 2) := by decide +kernel
theorem d_Rows_gather_72 : decode prog_9_method_2_code 72 = .ok (.aload_n 3, 1) := by decide +kernel
theorem d_Rows_gather_73 : decode prog_9_method_2_code 73 = .ok (.getfield 37, 3) := by decide +kernel
theorem d_Rows_gather_76 : decode prog_9_method_2_code 76 = .ok (.iload_n 2, 1) := by decide +kernel
theorem d_Rows_gather_77 : decode prog_9_method_2_code 77 = .ok (.iaload, 1) := by decide +kernel
theorem d_Rows_gather_78 : decode prog_9_method_2_code 78 = .ok (.imul, 1) := by decide +kernel
theorem d_Rows_gather_79 : decode prog_9_method_2_code 79 = .ok (.iadd, 1) := by decide +kernel
theorem d_Rows_gather_80 : decode prog_9_method_2_code 80 = .ok (.aload_n 3, 1) := by decide +kernel
theorem d_Rows_gather_81 : decode prog_9_method_2_code 81 = .ok (.getfield 40, 3) := by decide +kernel
theorem d_Rows_gather_84 : decode prog_9_method_2_code 84 = .ok (.iload_n 2, 1) := by decide +kernel
theorem d_Rows_gather_85 : decode prog_9_method_2_code 85 = .ok (.iaload, 1) := by decide +kernel
theorem d_Rows_gather_86 : decode prog_9_method_2_code 86 = .ok (.invokevirtual 43, 3) := by decide +kernel
theorem d_Rows_gather_89 : decode prog_9_method_2_code 89 = .ok (.istore 7, 2) := by decide +kernel
theorem d_Rows_gather_91 : decode prog_9_method_2_code 91 = .ok (.iconst 0, 1) := by decide +kernel
theorem d_Rows_gather_92 : decode prog_9_method_2_code 92 = .ok (.istore 8, 2) := by decide +kernel
theorem d_Rows_gather_94 : decode prog_9_method_2_code 94 = .ok (.iload 8, 2) := by decide +kernel
theorem d_Rows_gather_96 : decode prog_9_method_2_code 96 = .ok (.aload_n 1, 1) := by decide +kernel
theorem d_Rows_gather_97 : decode prog_9_method_2_code 97 = .ok (.getfield 47, 3) := by decide +kernel
theorem d_Rows_gather_100 : decode prog_9_method_2_code 100 = .ok (.if_icmp .ge 34, 3) := by decide +kernel
theorem d_Rows_gather_103 : decode prog_9_method_2_code 103 = .ok (.aload_n 0, 1) := by decide +kernel
theorem d_Rows_gather_104 : decode prog_9_method_2_code 104 = .ok (.iload 4, 2) := by decide +kernel
theorem d_Rows_gather_106 : decode prog_9_method_2_code 106 = .ok (.iload 5, 2) := by decide +kernel
theorem d_Rows_gather_108 : decode prog_9_method_2_code 108 = .ok (.aload_n 1, 1) := by decide +kernel
theorem d_Rows_gather_109 : decode prog_9_method_2_code 109 = .ok (.getfield 51, 3) := by decide +kernel
theorem d_Rows_gather_112 : decode prog_9_method_2_code 112 = .ok (.aload_n 1, 1) := by decide +kernel
theorem d_Rows_gather_113 : decode prog_9_method_2_code 113 = .ok (.getfield 54, 3) := by decide +kernel
theorem d_Rows_gather_116 : decode prog_9_method_2_code 116 = .ok (.iload 7, 2) := by decide +kernel
theorem d_Rows_gather_118 : decode prog_9_method_2_code 118 = .ok (.iload 8, 2) := by decide +kernel
theorem d_Rows_gather_120 : decode prog_9_method_2_code 120 = .ok (.iadd, 1) := by decide +kernel
theorem d_Rows_gather_121 : decode prog_9_method_2_code 121 = .ok (.iaload, 1) := by decide +kernel
theorem d_Rows_gather_122 : decode prog_9_method_2_code 122 = .ok (.invokevirtual 57, 3) := by decide +kernel
theorem d_Rows_gather_125 : decode prog_9_method_2_code 125 = .ok (.iinc 5 1, 3) := by decide +kernel
theorem d_Rows_gather_128 : decode prog_9_method_2_code 128 = .ok (.iinc 8 1, 3) := by decide +kernel
theorem d_Rows_gather_131 : decode prog_9_method_2_code 131 = .ok (.goto (-37), 3) := by decide +kernel
theorem d_Rows_gather_134 : decode prog_9_method_2_code 134 = .ok (.iinc 6 1, 3) := by decide +kernel
theorem d_Rows_gather_137 : decode prog_9_method_2_code 137 = .ok (.goto (-85), 3) := by decide +kernel
theorem d_Rows_gather_140 : decode prog_9_method_2_code 140 = .ok (.return_, 1) := by decide +kernel
set_option maxRecDepth 100000 in
set_option maxHeartbeats 4000000 in
theorem c_Rows_gather {l0 : Launch} (hl : l0.stackTraces = false) (n : Nat) (ids : List Nat) {t : Nat} (ht : mm_ok ids t 1 3) {r0 : Nat} (hr0 : mm_ok ids r0 1 10) (a1 : Int32) (σ : Mm) : kw_C l0 y_Rows_gather (Cond.code y_Rows_gather prog_9_method_2_code 9 none :: kw_Ts) rm_Rows_gather kw_ov ids [] [.ref t, .ref r0, .int a1] σ (F_Rows_gather n t r0 a1 σ) := by
  refine kw_start (L0 := [some (.ref t), some (.ref r0), some (.int a1), none, none, none, none, none, none]) hl (by decide +kernel) (Nat.le_of_ble_eq_true rfl) rfl (fun Γ ad C Ce => ?_)
  unfold F_Rows_gather
  refine kw_aload_n C d_Rows_gather_0 rfl ?_
  refine kw_getR C fi_Rows_19 rfl rfl hr0 d_Rows_gather_1 (fun o1 ho1 => ?_)
  refine kw_astore_n (L' := [some (.ref t), some (.ref r0), some (.int a1), some (.ref o1), none, none, none, none, none]) C d_Rows_gather_4 (by decide) rfl ?_
  refine kw_aload_n C d_Rows_gather_5 rfl ?_
  refine kw_getR C fi_Rows_25 rfl rfl ho1 d_Rows_gather_6 (fun o2 ho2 => ?_)
  refine kw_iload_n C d_Rows_gather_9 rfl ?_
  refine kw_iald C (Or.inl ⟨ho2.1, ho2.2.1⟩) d_Rows_gather_10 ?_
  refine kw_iconst (v := 1) C d_Rows_gather_11 (by decide) ?_
  refine kw_iadd C d_Rows_gather_12 ?_
  refine kw_leti (fun x3 => ?_)
  refine kw_istore (L' := [some (.ref t), some (.ref r0), some (.int a1), some (.ref o1), some (.int x3), none, none, none, none]) C d_Rows_gather_13 (by decide) rfl ?_
  refine kw_iconst (v := 0) C d_Rows_gather_15 (by decide) ?_
  refine kw_istore (L' := [some (.ref t), some (.ref r0), some (.int a1), some (.ref o1), some (.int x3), some (.int 0), none, none, none]) C d_Rows_gather_16 (by decide) rfl ?_
  refine kw_wk (kw_l (α := Int32) (pc := 18) (Lj := fun x5 => [some (.ref t), some (.ref r0), some (.int a1), some (.ref o1), some (.int x3), some (.int x5), none, none, none]) (stj := fun x5 => []) (fun k4 hk4 x5 σ6 => ?_) n 0 σ) ⟨Or.inr rfl, Or.inr rfl, Or.inr rfl, Or.inr rfl, Or.inr rfl, Or.inr rfl, Or.inl rfl, Or.inl rfl, Or.inl rfl, trivial⟩
  refine kw_iload C d_Rows_gather_18 rfl ?_
  refine kw_aload_n C d_Rows_gather_20 rfl ?_
  refine kw_getR C fi_Rows_28 rfl rfl ho1 d_Rows_gather_21 (fun o7 ho7 => ?_)
  refine kw_iload_n C d_Rows_gather_24 rfl ?_
  refine kw_iald C (Or.inl ⟨ho7.1, ho7.2.1⟩) d_Rows_gather_25 ?_
  refine kw_icmp_ge (tgt := 46) C d_Rows_gather_26 (by decide) ?_ ?_
  · refine kw_iconst (v := 0) C d_Rows_gather_46 (by decide) ?_
    refine kw_istore (L' := [some (.ref t), some (.ref r0), some (.int a1), some (.ref o1), some (.int x3), some (.int 0), none, none, none]) C d_Rows_gather_47 (by decide) rfl ?_
    refine kw_iconst (v := 0) C d_Rows_gather_49 (by decide) ?_
    refine kw_istore (L' := [some (.ref t), some (.ref r0), some (.int a1), some (.ref o1), some (.int x3), some (.int 0), some (.int 0), none, none]) C d_Rows_gather_50 (by decide) rfl ?_
    refine kw_wk (kw_l (α := Int32 × Int32) (pc := 52) (Lj := fun x9 => [some (.ref t), some (.ref r0), some (.int a1), some (.ref o1), some (.int x3), some (.int x9.1), some (.int x9.2), none, none]) (stj := fun x9 => []) (fun k8 hk8 x9 σ10 => ?_) n (0, 0) σ6) ⟨Or.inr rfl, Or.inr rfl, Or.inr rfl, Or.inr rfl, Or.inr rfl, Or.inr rfl, Or.inr rfl, Or.inl rfl, Or.inl rfl, trivial⟩
    refine kw_iload C d_Rows_gather_52 rfl ?_
    refine kw_aload_n C d_Rows_gather_54 rfl ?_
    refine kw_getR C fi_Rows_31 rfl rfl ho1 d_Rows_gather_55 (fun o11 ho11 => ?_)
    refine kw_iload_n C d_Rows_gather_58 rfl ?_
    refine kw_iald C (Or.inl ⟨ho11.1, ho11.2.1⟩) d_Rows_gather_59 ?_
    refine kw_icmp_ge (tgt := 140) C d_Rows_gather_60 (by decide) ?_ ?_
    · exact kw_vret C Ce rfl (by simp) (fun _ _ => rfl) (Nat.le_of_ble_eq_true rfl) (Nat.le_of_ble_eq_true rfl) rfl d_Rows_gather_140
    · refine kw_aload_n C d_Rows_gather_63 rfl ?_
      refine kw_aload_n C d_Rows_gather_64 rfl ?_
      refine kw_getR C fi_Rows_34 rfl rfl ho1 d_Rows_gather_65 (fun o12 ho12 => ?_)
      refine kw_iload_n C d_Rows_gather_68 rfl ?_
      refine kw_iald C (Or.inl ⟨ho12.1, ho12.2.1⟩) d_Rows_gather_69 ?_
      refine kw_iload C d_Rows_gather_70 rfl ?_
      refine kw_aload_n C d_Rows_gather_72 rfl ?_
      refine kw_getR C fi_Rows_37 rfl rfl ho1 d_Rows_gather_73 (fun o13 ho13 => ?_)
      refine kw_iload_n C d_Rows_gather_76 rfl ?_
      refine kw_iald C (Or.inl ⟨ho13.1, ho13.2.1⟩) d_Rows_gather_77 ?_
      refine kw_imul C d_Rows_gather_78 ?_
      refine kw_iadd C d_Rows_gather_79 ?_
      refine kw_aload_n C d_Rows_gather_80 rfl ?_
      refine kw_getR C fi_Rows_40 rfl rfl ho1 d_Rows_gather_81 (fun o14 ho14 => ?_)
      refine kw_iload_n C d_Rows_gather_84 rfl ?_
      refine kw_iald C (Or.inl ⟨ho14.1, ho14.2.1⟩) d_Rows_gather_85 ?_
      refine kw_callVi (cl' := 0) (sl' := 0) (As := [.int ((gB σ10 o12 a1.toNatClampNeg) + (x9.2 * (gB σ10 o13 a1.toNatClampNeg))), .int (gB σ10 o14 a1.toNatClampNeg)]) C (c_Picture_indexOf hl n ids hr0 ((gB σ10 o12 a1.toNatClampNeg) + (x9.2 * (gB σ10 o13 a1.toNatClampNeg))) (gB σ10 o14 a1.toNatClampNeg) σ10) mi_Rows_43 v_Picture_indexOf ⟨_, _, rfl⟩ hr0 ⟨Nat.le_of_ble_eq_true rfl, Nat.le_of_ble_eq_true rfl⟩ (Nat.le_of_ble_eq_true rfl) ⟨Nat.le_of_ble_eq_true rfl, Nat.le_of_ble_eq_true rfl⟩ ⟨rfl, rfl⟩ rfl d_Rows_gather_86 (fun x15 σ16 => ?_)
      refine kw_istore (L' := [some (.ref t), some (.ref r0), some (.int a1), some (.ref o1), some (.int x3), some (.int x9.1), some (.int x9.2), some (.int x15), none]) C d_Rows_gather_89 (by decide) rfl ?_
      refine kw_iconst (v := 0) C d_Rows_gather_91 (by decide) ?_
      refine kw_istore (L' := [some (.ref t), some (.ref r0), some (.int a1), some (.ref o1), some (.int x3), some (.int x9.1), some (.int x9.2), some (.int x15), some (.int 0)]) C d_Rows_gather_92 (by decide) rfl ?_
      refine kw_wk (kw_l (α := Int32 × Int32) (pc := 94) (Lj := fun x18 => [some (.ref t), some (.ref r0), some (.int a1), some (.ref o1), some (.int x3), some (.int x18.1), some (.int x9.2), some (.int x15), some (.int x18.2)]) (stj := fun x18 => []) (fun k17 hk17 x18 σ19 => ?_) n (x9.1, 0) σ16) ⟨Or.inr rfl, Or.inr rfl, Or.inr rfl, Or.inr rfl, Or.inr rfl, Or.inr rfl, Or.inr rfl, Or.inr rfl, Or.inr rfl, trivial⟩
      refine kw_iload C d_Rows_gather_94 rfl ?_
      refine kw_aload_n C d_Rows_gather_96 rfl ?_
      refine kw_getI C fi_Rows_47 (Or.inl rfl) hr0 d_Rows_gather_97 ?_
      refine kw_icmp_ge (tgt := 134) C d_Rows_gather_100 (by decide) ?_ ?_
      · refine kw_iincL (L2 := fun x20 => [some (.ref t), some (.ref r0), some (.int a1), some (.ref o1), some (.int x3), some (.int x18.1), some (.int x20), some (.int x15), some (.int x18.2)]) C d_Rows_gather_134 (by decide) rfl (fun _ => rfl) (fun x20 => ?_)
        refine kw_goto (tgt := 52) C d_Rows_gather_137 (by decide) ?_
        exact kw_wk (hk8 (x18.1, x20) σ19) ⟨Or.inr rfl, Or.inr rfl, Or.inr rfl, Or.inr rfl, Or.inr rfl, Or.inr rfl, Or.inr rfl, Or.inl rfl, Or.inl rfl, trivial⟩
      · refine kw_aload_n C d_Rows_gather_103 rfl ?_
        refine kw_iload C d_Rows_gather_104 rfl ?_
        refine kw_iload C d_Rows_gather_106 rfl ?_
        refine kw_aload_n C d_Rows_gather_108 rfl ?_
        refine kw_getI C fi_Rows_51 (Or.inl rfl) hr0 d_Rows_gather_109 ?_
        refine kw_aload_n C d_Rows_gather_112 rfl ?_
        refine kw_getR C fi_Rows_54 rfl rfl hr0 d_Rows_gather_113 (fun o21 ho21 => ?_)
        refine kw_iload C d_Rows_gather_116 rfl ?_
        refine kw_iload C d_Rows_gather_118 rfl ?_
        refine kw_iadd C d_Rows_gather_120 ?_
        refine kw_leti (fun x22 => ?_)
        refine kw_iald C (Or.inl ⟨ho21.1, ho21.2.1⟩) d_Rows_gather_121 ?_
        refine kw_callVv (cl' := 0) (sl' := 0) (As := [.int x3, .int x18.1, .int (gS σ19 (64 * r0 + 3)), .int (gB σ19 o21 x22.toNatClampNeg)]) C (c_Rows_putSample hl n ids ht x3 x18.1 (gS σ19 (64 * r0 + 3)) (gB σ19 o21 x22.toNatClampNeg) σ19) mi_Rows_57 v_Rows_putSample ⟨_, _, rfl⟩ ht ⟨Nat.le_of_ble_eq_true rfl, Nat.le_of_ble_eq_true rfl⟩ (Nat.le_of_ble_eq_true rfl) ⟨Nat.le_of_ble_eq_true rfl, Nat.le_of_ble_eq_true rfl⟩ ⟨rfl, rfl⟩ rfl d_Rows_gather_122 (fun σ23 => ?_)
        refine kw_iincL (L2 := fun x24 => [some (.ref t), some (.ref r0), some (.int a1), some (.ref o1), some (.int x3), some (.int x24), some (.int x9.2), some (.int x15), some (.int x18.2)]) C d_Rows_gather_125 (by decide) rfl (fun _ => rfl) (fun x24 => ?_)
        refine kw_iincL (L2 := fun x25 => [some (.ref t), some (.ref r0), some (.int a1), some (.ref o1), some (.int x3), some (.int x24), some (.int x9.2), some (.int x15), some (.int x25)]) C d_Rows_gather_128 (by decide) rfl (fun _ => rfl) (fun x25 => ?_)
        refine kw_goto (tgt := 94) C d_Rows_gather_131 (by decide) ?_
        exact kw_wk (hk17 (x24, x25) σ23) ⟨Or.inr rfl, Or.inr rfl, Or.inr rfl, Or.inr rfl, Or.inr rfl, Or.inr rfl, Or.inr rfl, Or.inr rfl, Or.inr rfl, trivial⟩
  · refine kw_aload_n C d_Rows_gather_29 rfl ?_
    refine kw_getR C fi_Rows_16 rfl rfl ht d_Rows_gather_30 (fun o26 ho26 => ?_)
    refine kw_iload C d_Rows_gather_33 rfl ?_
    refine kw_iload C d_Rows_gather_35 rfl ?_
    refine kw_iadd C d_Rows_gather_37 ?_
    refine kw_iconst (v := 0) C d_Rows_gather_38 (by decide) ?_
    refine kw_iast C ho26 d_Rows_gather_39 (fun σ27 => ?_)
    refine kw_iincL (L2 := fun x28 => [some (.ref t), some (.ref r0), some (.int a1), some (.ref o1), some (.int x3), some (.int x28), none, none, none]) C d_Rows_gather_40 (by decide) rfl (fun _ => rfl) (fun x28 => ?_)
    refine kw_goto (tgt := 18) C d_Rows_gather_43 (by decide) ?_
    exact kw_wk (hk4 x28 σ27) ⟨Or.inr rfl, Or.inr rfl, Or.inr rfl, Or.inr rfl, Or.inr rfl, Or.inr rfl, Or.inl rfl, Or.inl rfl, Or.inl rfl, trivial⟩
/-! Rows_cost -/
def rm_Rows_cost : Room := { frames := 3, cells := 0, slots := 0, locals := 75 }
def F_Rows_cost (n : Nat) (t : Nat) (r0 : Nat) (a1 : Int32) (a2 : Int32) (σ : Mm) : Option (Int32 × Mm) :=
Option.bind (gR σ (64 * r0 + 7)) fun o1 =>
kf_in a1 (mm_kd o1).2.2 <|
kf_let ((gB σ o1 a1.toNatClampNeg) + 1 : Int32) fun x2 =>
kf_l (α := Int32 × Int32) n (fun k3 x4 σ5 =>
Option.bind (gR σ5 (64 * r0 + 8)) fun o6 =>
kf_in a1 (mm_kd o6).2.2 <|
if (gB σ5 o6 a1.toNatClampNeg) ≤ x4.2 then (
some (x4.1, σ5)) else (
Option.bind (gR σ5 (64 * t + 1)) fun o7 =>
kf_let (x2 + x4.2 : Int32) fun x8 =>
kf_in x8 (mm_kd o7).2.2 <|
kf_c2 (F_Rows_guess n t r0 a1 x4.2 a2 σ5) fun x9 σ10 =>
kf_let (((gB σ5 o7 x8.toNatClampNeg) - x9) &&& 255 : Int32) fun x11 =>
kf_j (α := Int32 × Int32) (fun x13 σ14 =>
kf_let (x13.1 + x13.2 : Int32) fun x15 =>
kf_let (x4.2 + Int32.ofInt 1) fun x16 =>
k3 (x15, x16) σ14) fun k12 =>
if x11 ≤ 127 then (
k12 (x4.1, x11) σ10) else (
k12 (x4.1, (256 : Int32) - x11) σ10))) (0, 0) σ
theorem d_Rows_cost_0 : decode prog_9_method_7_code 0 = .ok (.aload_n 1, 1) := by decide +kernel
theorem d_Rows_cost_1 : decode prog_9_method_7_code 1 = .ok (.getfield 25, 3) := by decide +kernel
theorem d_Rows_cost_4 : decode prog_9_method_7_code 4 = .ok (.iload_n 2, 1) := by decide +kernel
theorem d_Rows_cost_5 : decode prog_9_method_7_code 5 = .ok (.iaload, 1) := by decide +kernel
theorem d_Rows_cost_6 : decode prog_9_method_7_code 6 = .ok (.iconst 1, 1) := by decide +kernel
theorem d_Rows_cost_7 : decode prog_9_method_7_code 7 = .ok (.iadd, 1) := by decide +kernel
theorem d_Rows_cost_8 : decode prog_9_method_7_code 8 = .ok (.istore 4, 2) := by decide +kernel
theorem d_Rows_cost_10 : decode prog_9_method_7_code 10 = .ok (.iconst 0, 1) := by decide +kernel
theorem d_Rows_cost_11 : decode prog_9_method_7_code 11 = .ok (.istore 5, 2) := by decide +kernel
theorem d_Rows_cost_13 : decode prog_9_method_7_code 13 = .ok (.iconst 0, 1) := by decide +kernel
theorem d_Rows_cost_14 : decode prog_9_method_7_code 14 = .ok (.istore 6, 2) := by decide +kernel
theorem d_Rows_cost_16 : decode prog_9_method_7_code 16 = .ok (.iload 6, 2) := by decide +kernel
theorem d_Rows_cost_18 : decode prog_9_method_7_code 18 = .ok (.aload_n 1, 1) := by decide +kernel
theorem d_Rows_cost_19 : decode prog_9_method_7_code 19 = .ok (.getfield 28, 3) := by decide +kernel
theorem d_Rows_cost_22 : decode prog_9_method_7_code 22 = .ok (.iload_n 2, 1) := by decide +kernel
theorem d_Rows_cost_23 : decode prog_9_method_7_code 23 = .ok (.iaload, 1) := by decide +kernel
theorem d_Rows_cost_24 : decode prog_9_method_7_code 24 = .ok (.if_icmp .ge 58, 3) := by decide +kernel
theorem d_Rows_cost_27 : decode prog_9_method_7_code 27 = .ok (.aload_n 0, 1) := by decide +kernel
theorem d_Rows_cost_28 : decode prog_9_method_7_code 28 = .ok (.getfield 16, 3) := by decide +kernel
theorem d_Rows_cost_31 : decode prog_9_method_7_code 31 = .ok (.iload 4, 2) := by decide +kernel
theorem d_Rows_cost_33 : decode prog_9_method_7_code 33 = .ok (.iload 6, 2) := by decide +kernel
theorem d_Rows_cost_35 : decode prog_9_method_7_code 35 = .ok (.iadd, 1) := by decide +kernel
theorem d_Rows_cost_36 : decode prog_9_method_7_code 36 = .ok (.iaload, 1) := by decide +kernel
theorem d_Rows_cost_37 : decode prog_9_method_7_code 37 = .ok (.aload_n 0, 1) := by decide +kernel
theorem d_Rows_cost_38 : decode prog_9_method_7_code 38 = .ok (.aload_n 1, 1) := by decide +kernel
theorem d_Rows_cost_39 : decode prog_9_method_7_code 39 = .ok (.iload_n 2, 1) := by decide +kernel
theorem d_Rows_cost_40 : decode prog_9_method_7_code 40 = .ok (.iload 6, 2) := by decide +kernel
theorem d_Rows_cost_42 : decode prog_9_method_7_code 42 = .ok (.iload_n 3, 1) := by decide +kernel
theorem d_Rows_cost_43 : decode prog_9_method_7_code 43 = .ok (.invokevirtual 69, 3) := by decide +kernel
theorem d_Rows_cost_46 : decode prog_9_method_7_code 46 = .ok (.isub, 1) := by decide +kernel
theorem d_Rows_cost_47 : decode prog_9_method_7_code 47 = .ok (.sipush 255, 3) := by decide +kernel
theorem d_Rows_cost_50 : decode prog_9_method_7_code 50 = .ok (.iand, 1) := by decide +kernel
theorem d_Rows_cost_51 : decode prog_9_method_7_code 51 = .ok (.istore 7, 2) := by decide +kernel
theorem d_Rows_cost_53 : decode prog_9_method_7_code 53 = .ok (.iload 5, 2) := by decide +kernel
theorem d_Rows_cost_55 : decode prog_9_method_7_code 55 = .ok (.iload 7, 2) := by decide +kernel
theorem d_Rows_cost_57 : decode prog_9_method_7_code 57 = .ok (.bipush 127, 2) := by decide +kernel
theorem d_Rows_cost_59 : decode prog_9_method_7_code 59 = .ok (.if_icmp .le 12, 3) := by decide +kernel
theorem d_Rows_cost_62 : decode prog_9_method_7_code 62 = .ok (.sipush 256, 3) := by decide +kernel
theorem d_Rows_cost_65 : decode prog_9_method_7_code 65 = .ok (.iload 7, 2) := by decide +kernel
theorem d_Rows_cost_67 : decode prog_9_method_7_code 67 = .ok (.isub, 1) := by decide +kernel
theorem d_Rows_cost_68 : decode prog_9_method_7_code 68 = .ok (.goto 5, 3) := by decide +kernel
theorem d_Rows_cost_71 : decode prog_9_method_7_code 71 = .ok (.iload 7, 2) := by decide +kernel
theorem d_Rows_cost_73 : decode prog_9_method_7_code 73 = .ok (.iadd, 1) := by decide +kernel
theorem d_Rows_cost_74 : decode prog_9_method_7_code 74 = .ok (.istore 5, 2) := by decide +kernel
theorem d_Rows_cost_76 : decode prog_9_method_7_code 76 = .ok (.iinc 6 1, 3) := by decide +kernel
theorem d_Rows_cost_79 : decode prog_9_method_7_code 79 = .ok (.goto (-63), 3) := by decide +kernel
theorem d_Rows_cost_82 : decode prog_9_method_7_code 82 = .ok (.iload 5, 2) := by decide +kernel
theorem d_Rows_cost_84 : decode prog_9_method_7_code 84 = .ok (.ireturn, 1) := by decide +kernel
set_option maxRecDepth 100000 in
set_option maxHeartbeats 4000000 in
theorem c_Rows_cost {l0 : Launch} (hl : l0.stackTraces = false) (n : Nat) (ids : List Nat) {t : Nat} (ht : mm_ok ids t 1 3) {r0 : Nat} (hr0 : mm_ok ids r0 1 11) (a1 : Int32) (a2 : Int32) (σ : Mm) : kw_C l0 y_Rows_cost (Cond.code y_Rows_cost prog_9_method_7_code 8 (some .int) :: kw_Ts) rm_Rows_cost kw_oi ids [] [.ref t, .ref r0, .int a1, .int a2] σ (F_Rows_cost n t r0 a1 a2 σ) := by
  refine kw_start (L0 := [some (.ref t), some (.ref r0), some (.int a1), some (.int a2), none, none, none, none]) hl (by decide +kernel) (Nat.le_of_ble_eq_true rfl) rfl (fun Γ ad C Ce => ?_)
  unfold F_Rows_cost
  refine kw_aload_n C d_Rows_cost_0 rfl ?_
  refine kw_getR C fi_Rows_25 rfl rfl hr0 d_Rows_cost_1 (fun o1 ho1 => ?_)
  refine kw_iload_n C d_Rows_cost_4 rfl ?_
  refine kw_iald C (Or.inl ⟨ho1.1, ho1.2.1⟩) d_Rows_cost_5 ?_
  refine kw_iconst (v := 1) C d_Rows_cost_6 (by decide) ?_
  refine kw_iadd C d_Rows_cost_7 ?_
  refine kw_leti (fun x2 => ?_)
  refine kw_istore (L' := [some (.ref t), some (.ref r0), some (.int a1), some (.int a2), some (.int x2), none, none, none]) C d_Rows_cost_8 (by decide) rfl ?_
  refine kw_iconst (v := 0) C d_Rows_cost_10 (by decide) ?_
  refine kw_istore (L' := [some (.ref t), some (.ref r0), some (.int a1), some (.int a2), some (.int x2), some (.int 0), none, none]) C d_Rows_cost_11 (by decide) rfl ?_
  refine kw_iconst (v := 0) C d_Rows_cost_13 (by decide) ?_
  refine kw_istore (L' := [some (.ref t), some (.ref r0), some (.int a1), some (.int a2), some (.int x2), some (.int 0), some (.int 0), none]) C d_Rows_cost_14 (by decide) rfl ?_
  refine kw_wk (kw_l (α := Int32 × Int32) (pc := 16) (Lj := fun x4 => [some (.ref t), some (.ref r0), some (.int a1), some (.int a2), some (.int x2), some (.int x4.1), some (.int x4.2), none]) (stj := fun x4 => []) (fun k3 hk3 x4 σ5 => ?_) n (0, 0) σ) ⟨Or.inr rfl, Or.inr rfl, Or.inr rfl, Or.inr rfl, Or.inr rfl, Or.inr rfl, Or.inr rfl, Or.inl rfl, trivial⟩
  refine kw_iload C d_Rows_cost_16 rfl ?_
  refine kw_aload_n C d_Rows_cost_18 rfl ?_
  refine kw_getR C fi_Rows_28 rfl rfl hr0 d_Rows_cost_19 (fun o6 ho6 => ?_)
  refine kw_iload_n C d_Rows_cost_22 rfl ?_
  refine kw_iald C (Or.inl ⟨ho6.1, ho6.2.1⟩) d_Rows_cost_23 ?_
  refine kw_icmp_ge (tgt := 82) C d_Rows_cost_24 (by decide) ?_ ?_
  · refine kw_iload C d_Rows_cost_82 rfl ?_
    exact kw_iret C Ce rfl (by simp) (fun _ _ => rfl) (Nat.le_of_ble_eq_true rfl) (Nat.le_of_ble_eq_true rfl) rfl d_Rows_cost_84
  · refine kw_aload_n C d_Rows_cost_27 rfl ?_
    refine kw_getR C fi_Rows_16 rfl rfl ht d_Rows_cost_28 (fun o7 ho7 => ?_)
    refine kw_iload C d_Rows_cost_31 rfl ?_
    refine kw_iload C d_Rows_cost_33 rfl ?_
    refine kw_iadd C d_Rows_cost_35 ?_
    refine kw_leti (fun x8 => ?_)
    refine kw_iald C (Or.inl ⟨ho7.1, ho7.2.1⟩) d_Rows_cost_36 ?_
    refine kw_aload_n C d_Rows_cost_37 rfl ?_
    refine kw_aload_n C d_Rows_cost_38 rfl ?_
    refine kw_iload_n C d_Rows_cost_39 rfl ?_
    refine kw_iload C d_Rows_cost_40 rfl ?_
    refine kw_iload_n C d_Rows_cost_42 rfl ?_
    refine kw_callVi (cl' := 0) (sl' := 0) (As := [.ref r0, .int a1, .int x4.2, .int a2]) C (c_Rows_guess hl n ids ht hr0 a1 x4.2 a2 σ5) mi_Rows_69 v_Rows_guess ⟨_, _, rfl⟩ ht ⟨Nat.le_of_ble_eq_true rfl, Nat.le_of_ble_eq_true rfl⟩ (Nat.le_of_ble_eq_true rfl) ⟨Nat.le_of_ble_eq_true rfl, Nat.le_of_ble_eq_true rfl⟩ ⟨rfl, rfl⟩ rfl d_Rows_cost_43 (fun x9 σ10 => ?_)
    refine kw_isub C d_Rows_cost_46 ?_
    refine kw_sipush (v := 255) C d_Rows_cost_47 (by decide) ?_
    refine kw_iand C d_Rows_cost_50 ?_
    refine kw_leti (fun x11 => ?_)
    refine kw_istore (L' := [some (.ref t), some (.ref r0), some (.int a1), some (.int a2), some (.int x2), some (.int x4.1), some (.int x4.2), some (.int x11)]) C d_Rows_cost_51 (by decide) rfl ?_
    refine kw_iload C d_Rows_cost_53 rfl ?_
    refine kw_iload C d_Rows_cost_55 rfl ?_
    refine kw_bipush (v := 127) C d_Rows_cost_57 (by decide) ?_
    refine kw_j (α := Int32 × Int32) (pcj := 73) (Lj := fun x13 => [some (.ref t), some (.ref r0), some (.int a1), some (.int a2), some (.int x2), none, some (.int x4.2), none]) (stj := fun x13 => [.int x13.2, .int x13.1]) (fun x13 σ14 => ?_) (fun k12 hk12 => ?_)
    · refine kw_iadd C d_Rows_cost_73 ?_
      refine kw_leti (fun x15 => ?_)
      refine kw_istore (L' := [some (.ref t), some (.ref r0), some (.int a1), some (.int a2), some (.int x2), some (.int x15), some (.int x4.2), none]) C d_Rows_cost_74 (by decide) rfl ?_
      refine kw_iincL (L2 := fun x16 => [some (.ref t), some (.ref r0), some (.int a1), some (.int a2), some (.int x2), some (.int x15), some (.int x16), none]) C d_Rows_cost_76 (by decide) rfl (fun _ => rfl) (fun x16 => ?_)
      refine kw_goto (tgt := 16) C d_Rows_cost_79 (by decide) ?_
      exact kw_wk (hk3 (x15, x16) σ14) ⟨Or.inr rfl, Or.inr rfl, Or.inr rfl, Or.inr rfl, Or.inr rfl, Or.inr rfl, Or.inr rfl, Or.inl rfl, trivial⟩
    · refine kw_icmp_le (tgt := 71) C d_Rows_cost_59 (by decide) ?_ ?_
      · refine kw_iload C d_Rows_cost_71 rfl ?_
        exact kw_wk (hk12 (x4.1, x11) σ10) ⟨Or.inr rfl, Or.inr rfl, Or.inr rfl, Or.inr rfl, Or.inr rfl, Or.inl rfl, Or.inr rfl, Or.inl rfl, trivial⟩
      · refine kw_sipush (v := 256) C d_Rows_cost_62 (by decide) ?_
        refine kw_iload C d_Rows_cost_65 rfl ?_
        refine kw_isub C d_Rows_cost_67 ?_
        refine kw_goto (tgt := 73) C d_Rows_cost_68 (by decide) ?_
        exact kw_wk (hk12 (x4.1, (256 : Int32) - x11) σ10) ⟨Or.inr rfl, Or.inr rfl, Or.inr rfl, Or.inr rfl, Or.inr rfl, Or.inl rfl, Or.inr rfl, Or.inl rfl, trivial⟩
/-! Rows_bestFilter -/
def rm_Rows_bestFilter : Room := { frames := 4, cells := 0, slots := 0, locals := 102 }
def F_Rows_bestFilter (n : Nat) (t : Nat) (r0 : Nat) (a1 : Int32) (σ : Mm) : Option (Int32 × Mm) :=
kf_c2 (F_Rows_cost n t r0 a1 0 σ) fun x1 σ2 =>
kf_l (α := Int32 × Int32 × Int32) n (fun k3 x4 σ5 =>
if 5 ≤ x4.2.2 then (
some (x4.1, σ5)) else (
kf_c2 (F_Rows_cost n t r0 a1 x4.2.2 σ5) fun x6 σ7 =>
kf_j (α := Int32 × Int32) (fun x9 σ10 =>
kf_let (x4.2.2 + Int32.ofInt 1) fun x11 =>
k3 (x9.1, x9.2, x11) σ10) fun k8 =>
if x4.2.1 ≤ x6 then (
k8 (x4.1, x4.2.1) σ7) else (
k8 (x4.2.2, x6) σ7))) (0, x1, 1) σ2
theorem d_Rows_bestFilter_0 : decode prog_9_method_6_code 0 = .ok (.iconst 0, 1) := by decide +kernel
theorem d_Rows_bestFilter_1 : decode prog_9_method_6_code 1 = .ok (.istore_n 3, 1) := by decide +kernel
theorem d_Rows_bestFilter_2 : decode prog_9_method_6_code 2 = .ok (.aload_n 0, 1) := by decide +kernel
theorem d_Rows_bestFilter_3 : decode prog_9_method_6_code 3 = .ok (.aload_n 1, 1) := by decide +kernel
theorem d_Rows_bestFilter_4 : decode prog_9_method_6_code 4 = .ok (.iload_n 2, 1) := by decide +kernel
theorem d_Rows_bestFilter_5 : decode prog_9_method_6_code 5 = .ok (.iconst 0, 1) := by decide +kernel
theorem d_Rows_bestFilter_6 : decode prog_9_method_6_code 6 = .ok (.invokevirtual 65, 3) := by decide +kernel
theorem d_Rows_bestFilter_9 : decode prog_9_method_6_code 9 = .ok (.istore 4, 2) := by decide +kernel
theorem d_Rows_bestFilter_11 : decode prog_9_method_6_code 11 = .ok (.iconst 1, 1) := by decide +kernel
theorem d_Rows_bestFilter_12 : decode prog_9_method_6_code 12 = .ok (.istore 5, 2) := by decide +kernel
theorem d_Rows_bestFilter_14 : decode prog_9_method_6_code 14 = .ok (.iload 5, 2) := by decide +kernel
theorem d_Rows_bestFilter_16 : decode prog_9_method_6_code 16 = .ok (.iconst 5, 1) := by decide +kernel
theorem d_Rows_bestFilter_17 : decode prog_9_method_6_code 17 = .ok (.if_icmp .ge 33, 3) := by decide +kernel
theorem d_Rows_bestFilter_20 : decode prog_9_method_6_code 20 = .ok (.aload_n 0, 1) := by decide +kernel
theorem d_Rows_bestFilter_21 : decode prog_9_method_6_code 21 = .ok (.aload_n 1, 1) := by decide +kernel
theorem d_Rows_bestFilter_22 : decode prog_9_method_6_code 22 = .ok (.iload_n 2, 1) := by decide +kernel
theorem d_Rows_bestFilter_23 : decode prog_9_method_6_code 23 = .ok (.iload 5, 2) := by decide +kernel
theorem d_Rows_bestFilter_25 : decode prog_9_method_6_code 25 = .ok (.invokevirtual 65, 3) := by decide +kernel
theorem d_Rows_bestFilter_28 : decode prog_9_method_6_code 28 = .ok (.istore 6, 2) := by decide +kernel
theorem d_Rows_bestFilter_30 : decode prog_9_method_6_code 30 = .ok (.iload 6, 2) := by decide +kernel
theorem d_Rows_bestFilter_32 : decode prog_9_method_6_code 32 = .ok (.iload 4, 2) := by decide +kernel
theorem d_Rows_bestFilter_34 : decode prog_9_method_6_code 34 = .ok (.if_icmp .ge 10, 3) := by decide +kernel
theorem d_Rows_bestFilter_37 : decode prog_9_method_6_code 37 = .ok (.iload 6, 2) := by decide +kernel
theorem d_Rows_bestFilter_39 : decode prog_9_method_6_code 39 = .ok (.istore 4, 2) := by decide +kernel
theorem d_Rows_bestFilter_41 : decode prog_9_method_6_code 41 = .ok (.iload 5, 2) := by decide +kernel
theorem d_Rows_bestFilter_43 : decode prog_9_method_6_code 43 = .ok (.istore_n 3, 1) := by decide +kernel
theorem d_Rows_bestFilter_44 : decode prog_9_method_6_code 44 = .ok (.iinc 5 1, 3) := by decide +kernel
theorem d_Rows_bestFilter_47 : decode prog_9_method_6_code 47 = .ok (.goto (-33), 3) := by decide +kernel
theorem d_Rows_bestFilter_50 : decode prog_9_method_6_code 50 = .ok (.iload_n 3, 1) := by decide +kernel
theorem d_Rows_bestFilter_51 : decode prog_9_method_6_code 51 = .ok (.ireturn, 1) := by decide +kernel
set_option maxRecDepth 100000 in
set_option maxHeartbeats 4000000 in
theorem c_Rows_bestFilter {l0 : Launch} (hl : l0.stackTraces = false) (n : Nat) (ids : List Nat) {t : Nat} (ht : mm_ok ids t 1 3) {r0 : Nat} (hr0 : mm_ok ids r0 1 11) (a1 : Int32) (σ : Mm) : kw_C l0 y_Rows_bestFilter (Cond.code y_Rows_bestFilter prog_9_method_6_code 7 (some .int) :: kw_Ts) rm_Rows_bestFilter kw_oi ids [] [.ref t, .ref r0, .int a1] σ (F_Rows_bestFilter n t r0 a1 σ) := by
  refine kw_start (L0 := [some (.ref t), some (.ref r0), some (.int a1), none, none, none, none]) hl (by decide +kernel) (Nat.le_of_ble_eq_true rfl) rfl (fun Γ ad C Ce => ?_)
  unfold F_Rows_bestFilter
  refine kw_iconst (v := 0) C d_Rows_bestFilter_0 (by decide) ?_
  refine kw_istore_n (L' := [some (.ref t), some (.ref r0), some (.int a1), some (.int 0), none, none, none]) C d_Rows_bestFilter_1 (by decide) rfl ?_
  refine kw_aload_n C d_Rows_bestFilter_2 rfl ?_
  refine kw_aload_n C d_Rows_bestFilter_3 rfl ?_
  refine kw_iload_n C d_Rows_bestFilter_4 rfl ?_
  refine kw_iconst (v := 0) C d_Rows_bestFilter_5 (by decide) ?_
  refine kw_callVi (cl' := 0) (sl' := 0) (As := [.ref r0, .int a1, .int 0]) C (c_Rows_cost hl n ids ht hr0 a1 0 σ) mi_Rows_65 v_Rows_cost ⟨_, _, rfl⟩ ht ⟨Nat.le_of_ble_eq_true rfl, Nat.le_of_ble_eq_true rfl⟩ (Nat.le_of_ble_eq_true rfl) ⟨Nat.le_of_ble_eq_true rfl, Nat.le_of_ble_eq_true rfl⟩ ⟨rfl, rfl⟩ rfl d_Rows_bestFilter_6 (fun x1 σ2 => ?_)
  refine kw_istore (L' := [some (.ref t), some (.ref r0), some (.int a1), some (.int 0), some (.int x1), none, none]) C d_Rows_bestFilter_9 (by decide) rfl ?_
  refine kw_iconst (v := 1) C d_Rows_bestFilter_11 (by decide) ?_
  refine kw_istore (L' := [some (.ref t), some (.ref r0), some (.int a1), some (.int 0), some (.int x1), some (.int 1), none]) C d_Rows_bestFilter_12 (by decide) rfl ?_
  refine kw_wk (kw_l (α := Int32 × Int32 × Int32) (pc := 14) (Lj := fun x4 => [some (.ref t), some (.ref r0), some (.int a1), some (.int x4.1), some (.int x4.2.1), some (.int x4.2.2), none]) (stj := fun x4 => []) (fun k3 hk3 x4 σ5 => ?_) n (0, x1, 1) σ2) ⟨Or.inr rfl, Or.inr rfl, Or.inr rfl, Or.inr rfl, Or.inr rfl, Or.inr rfl, Or.inl rfl, trivial⟩
  refine kw_iload C d_Rows_bestFilter_14 rfl ?_
  refine kw_iconst (v := 5) C d_Rows_bestFilter_16 (by decide) ?_
  refine kw_icmp_ge (tgt := 50) C d_Rows_bestFilter_17 (by decide) ?_ ?_
  · refine kw_iload_n C d_Rows_bestFilter_50 rfl ?_
    exact kw_iret C Ce rfl (by simp) (fun _ _ => rfl) (Nat.le_of_ble_eq_true rfl) (Nat.le_of_ble_eq_true rfl) rfl d_Rows_bestFilter_51
  · refine kw_aload_n C d_Rows_bestFilter_20 rfl ?_
    refine kw_aload_n C d_Rows_bestFilter_21 rfl ?_
    refine kw_iload_n C d_Rows_bestFilter_22 rfl ?_
    refine kw_iload C d_Rows_bestFilter_23 rfl ?_
    refine kw_callVi (cl' := 0) (sl' := 0) (As := [.ref r0, .int a1, .int x4.2.2]) C (c_Rows_cost hl n ids ht hr0 a1 x4.2.2 σ5) mi_Rows_65 v_Rows_cost ⟨_, _, rfl⟩ ht ⟨Nat.le_of_ble_eq_true rfl, Nat.le_of_ble_eq_true rfl⟩ (Nat.le_of_ble_eq_true rfl) ⟨Nat.le_of_ble_eq_true rfl, Nat.le_of_ble_eq_true rfl⟩ ⟨rfl, rfl⟩ rfl d_Rows_bestFilter_25 (fun x6 σ7 => ?_)
    refine kw_istore (L' := [some (.ref t), some (.ref r0), some (.int a1), some (.int x4.1), some (.int x4.2.1), some (.int x4.2.2), some (.int x6)]) C d_Rows_bestFilter_28 (by decide) rfl ?_
    refine kw_iload C d_Rows_bestFilter_30 rfl ?_
    refine kw_iload C d_Rows_bestFilter_32 rfl ?_
    refine kw_j (α := Int32 × Int32) (pcj := 44) (Lj := fun x9 => [some (.ref t), some (.ref r0), some (.int a1), some (.int x9.1), some (.int x9.2), some (.int x4.2.2), none]) (stj := fun x9 => []) (fun x9 σ10 => ?_) (fun k8 hk8 => ?_)
    · refine kw_iincL (L2 := fun x11 => [some (.ref t), some (.ref r0), some (.int a1), some (.int x9.1), some (.int x9.2), some (.int x11), none]) C d_Rows_bestFilter_44 (by decide) rfl (fun _ => rfl) (fun x11 => ?_)
      refine kw_goto (tgt := 14) C d_Rows_bestFilter_47 (by decide) ?_
      exact kw_wk (hk3 (x9.1, x9.2, x11) σ10) ⟨Or.inr rfl, Or.inr rfl, Or.inr rfl, Or.inr rfl, Or.inr rfl, Or.inr rfl, Or.inl rfl, trivial⟩
    · refine kw_icmp_ge (tgt := 44) C d_Rows_bestFilter_34 (by decide) ?_ ?_
      · exact kw_wk (hk8 (x4.1, x4.2.1) σ7) ⟨Or.inr rfl, Or.inr rfl, Or.inr rfl, Or.inr rfl, Or.inr rfl, Or.inr rfl, Or.inl rfl, trivial⟩
      · refine kw_iload C d_Rows_bestFilter_37 rfl ?_
        refine kw_istore (L' := [some (.ref t), some (.ref r0), some (.int a1), some (.int x4.1), some (.int x6), some (.int x4.2.2), some (.int x6)]) C d_Rows_bestFilter_39 (by decide) rfl ?_
        refine kw_iload C d_Rows_bestFilter_41 rfl ?_
        refine kw_istore_n (L' := [some (.ref t), some (.ref r0), some (.int a1), some (.int x4.2.2), some (.int x6), some (.int x4.2.2), some (.int x6)]) C d_Rows_bestFilter_43 (by decide) rfl ?_
        exact kw_wk (hk8 (x4.2.2, x6) σ7) ⟨Or.inr rfl, Or.inr rfl, Or.inr rfl, Or.inr rfl, Or.inr rfl, Or.inr rfl, Or.inl rfl, trivial⟩
/-! PF_filter -/
def rm_PF_filter : Room := { frames := 7, cells := 2, slots := 12, locals := 128 }
def F_PF_filter (n : Nat) (t : Nat) (a0 : Int32) (σ : Mm) : Option ((Int32 ⊕ String) × Mm) :=
kf_t (F_PF_wantPicture n t σ) fun _ σ1 =>
kf_j (α := Unit) (fun x3 σ4 =>
some (.inr "java/lang/IndexOutOfBoundsException", σ4)) fun k2 =>
if a0 < 0 then (
k2 () σ1) else (
Option.bind (gR σ1 (64 * t + 6)) fun o5 =>
Option.bind (gR σ1 (64 * o5 + 11)) fun o6 =>
if a0 < (gS σ1 (64 * o6 + 0)) then (
Option.bind (gR σ1 (64 * t + 6)) fun o7 =>
Option.bind (gR σ1 (64 * o7 + 11)) fun o8 =>
Option.bind (gR σ1 (64 * o8 + 9)) fun o9 =>
kf_in a0 (mm_kd o9).2.2 <|
kf_j (α := Unit) (fun x11 σ12 =>
Option.bind (gR σ12 (64 * t + 4)) fun o13 =>
Option.bind (gR σ12 (64 * t + 6)) fun o14 =>
Option.bind (F_Rows_gather n o13 o14 a0 σ12) fun σ15 =>
Option.bind (gR σ15 (64 * t + 4)) fun o16 =>
Option.bind (gR σ15 (64 * t + 6)) fun o17 =>
Option.bind (gR σ15 (64 * o17 + 11)) fun o18 =>
kf_c2 (F_Rows_bestFilter n o16 o18 a0 σ15) fun x19 σ20 =>
some (.inl x19, σ20)) fun k10 =>
if (gB σ1 o9 a0.toNatClampNeg) ≤ 0 then (
k10 () σ1) else (
Option.bind (gR σ1 (64 * t + 4)) fun o21 =>
Option.bind (gR σ1 (64 * t + 6)) fun o22 =>
Option.bind (F_Rows_gather n o21 o22 (a0 - 1) σ1) fun σ23 =>
k10 () σ23)) else (
k2 () σ1))
theorem d_PF_filter_0 : decode prog_1_method_15_code 0 = .ok (.aload_n 0, 1) := by decide +kernel
theorem d_PF_filter_1 : decode prog_1_method_15_code 1 = .ok (.invokevirtual 136, 3) := by decide +kernel
theorem d_PF_filter_4 : decode prog_1_method_15_code 4 = .ok (.iload_n 1, 1) := by decide +kernel
theorem d_PF_filter_5 : decode prog_1_method_15_code 5 = .ok (.ifCond .lt 17, 3) := by decide +kernel
theorem d_PF_filter_8 : decode prog_1_method_15_code 8 = .ok (.iload_n 1, 1) := by decide +kernel
theorem d_PF_filter_9 : decode prog_1_method_15_code 9 = .ok (.aload_n 0, 1) := by decide +kernel
theorem d_PF_filter_10 : decode prog_1_method_15_code 10 = .ok (.getfield 65, 3) := by decide +kernel
theorem d_PF_filter_13 : decode prog_1_method_15_code 13 = .ok (.getfield 98, 3) := by decide +kernel
theorem d_PF_filter_16 : decode prog_1_method_15_code 16 = .ok (.getfield 160, 3) := by decide +kernel
theorem d_PF_filter_19 : decode prog_1_method_15_code 19 = .ok (.if_icmp .lt 11, 3) := by decide +kernel
theorem d_PF_filter_22 : decode prog_1_method_15_code 22 = .ok (.new 177, 3) := by decide +kernel
theorem d_PF_filter_25 : decode prog_1_method_15_code 25 = .ok (.dup, 1) := by decide +kernel
theorem d_PF_filter_26 : decode prog_1_method_15_code 26 = .ok (.invokespecial 179, 3) := by decide +kernel
theorem d_PF_filter_29 : decode prog_1_method_15_code 29 = .ok (.athrow, 1) := by decide +kernel
theorem d_PF_filter_30 : decode prog_1_method_15_code 30 = .ok (.aload_n 0, 1) := by decide +kernel
theorem d_PF_filter_31 : decode prog_1_method_15_code 31 = .ok (.getfield 65, 3) := by decide +kernel
theorem d_PF_filter_34 : decode prog_1_method_15_code 34 = .ok (.getfield 98, 3) := by decide +kernel
theorem d_PF_filter_37 : decode prog_1_method_15_code 37 = .ok (.getfield 200, 3) := by decide +kernel
theorem d_PF_filter_40 : decode prog_1_method_15_code 40 = .ok (.iload_n 1, 1) := by decide +kernel
theorem d_PF_filter_41 : decode prog_1_method_15_code 41 = .ok (.iaload, 1) := by decide +kernel
theorem d_PF_filter_42 : decode prog_1_method_15_code 42 = .ok (.ifCond .le 17, 3) := by decide +kernel
theorem d_PF_filter_45 : decode prog_1_method_15_code 45 = .ok (.aload_n 0, 1) := by decide +kernel
theorem d_PF_filter_46 : decode prog_1_method_15_code 46 = .ok (.getfield 26, 3) := by decide +kernel
theorem d_PF_filter_49 : decode prog_1_method_15_code 49 = .ok (.aload_n 0, 1) := by decide +kernel
theorem d_PF_filter_50 : decode prog_1_method_15_code 50 = .ok (.getfield 65, 3) := by decide +kernel
theorem d_PF_filter_53 : decode prog_1_method_15_code 53 = .ok (.iload_n 1, 1) := by decide +kernel
theorem d_PF_filter_54 : decode prog_1_method_15_code 54 = .ok (.iconst 1, 1) := by decide +kernel
theorem d_PF_filter_55 : decode prog_1_method_15_code 55 = .ok (.isub, 1) := by decide +kernel
theorem d_PF_filter_56 : decode prog_1_method_15_code 56 = .ok (.invokevirtual 203, 3) := by decide +kernel
theorem d_PF_filter_59 : decode prog_1_method_15_code 59 = .ok (.aload_n 0, 1) := by decide +kernel
theorem d_PF_filter_60 : decode prog_1_method_15_code 60 = .ok (.getfield 26, 3) := by decide +kernel
theorem d_PF_filter_63 : decode prog_1_method_15_code 63 = .ok (.aload_n 0, 1) := by decide +kernel
theorem d_PF_filter_64 : decode prog_1_method_15_code 64 = .ok (.getfield 65, 3) := by decide +kernel
theorem d_PF_filter_67 : decode prog_1_method_15_code 67 = .ok (.iload_n 1, 1) := by decide +kernel
theorem d_PF_filter_68 : decode prog_1_method_15_code 68 = .ok (.invokevirtual 203, 3) := by decide +kernel
theorem d_PF_filter_71 : decode prog_1_method_15_code 71 = .ok (.aload_n 0, 1) := by decide +kernel
theorem d_PF_filter_72 : decode prog_1_method_15_code 72 = .ok (.getfield 26, 3) := by decide +kernel
theorem d_PF_filter_75 : decode prog_1_method_15_code 75 = .ok (.aload_n 0, 1) := by decide +kernel
theorem d_PF_filter_76 : decode prog_1_method_15_code 76 = .ok (.getfield 65, 3) := by decide +kernel
theorem d_PF_filter_79 : decode prog_1_method_15_code 79 = .ok (.getfield 98, 3) := by decide +kernel
theorem d_PF_filter_82 : decode prog_1_method_15_code 82 = .ok (.iload_n 1, 1) := by decide +kernel
theorem d_PF_filter_83 : decode prog_1_method_15_code 83 = .ok (.invokevirtual 207, 3) := by decide +kernel
theorem d_PF_filter_86 : decode prog_1_method_15_code 86 = .ok (.ireturn, 1) := by decide +kernel
set_option maxRecDepth 100000 in
set_option maxHeartbeats 4000000 in
theorem c_PF_filter {l0 : Launch} (hl : l0.stackTraces = false) (n : Nat) (ids : List Nat) {t : Nat} (ht : mm_ok ids t 1 0) (a0 : Int32) (σ : Mm) : kw_C l0 y_PF_filter (Cond.code y_PF_filter prog_1_method_15_code 2 (some .int) :: kw_Ts) rm_PF_filter kw_oti ids [] [.ref t, .int a0] σ (F_PF_filter n t a0 σ) := by
  refine kw_start (L0 := [some (.ref t), some (.int a0)]) hl (by decide +kernel) (Nat.le_of_ble_eq_true rfl) rfl (fun Γ ad C Ce => ?_)
  unfold F_PF_filter
  refine kw_aload_n C d_PF_filter_0 rfl ?_
  refine kw_callVt (As := []) (cl' := 1) (sl' := 6) C Ce (fun _ _ => rfl) (c_PF_wantPicture hl n ids ht  σ) mi_PF_136 v_PF_wantPicture ⟨_, _, rfl⟩ ht ⟨Nat.le_of_ble_eq_true rfl, Nat.le_of_ble_eq_true rfl⟩ (Nat.le_of_ble_eq_true rfl) ⟨Nat.le_of_ble_eq_true rfl, Nat.le_of_ble_eq_true rfl⟩ ⟨rfl, rfl⟩ rfl (by simp) (fun _ _ => rfl) d_PF_filter_1 (fun _ σ1 => ?_)
  refine kw_iload_n C d_PF_filter_4 rfl ?_
  refine kw_j (α := Unit) (pcj := 22) (Lj := fun x3 => [none, none]) (stj := fun x3 => []) (fun x3 σ4 => ?_) (fun k2 hk2 => ?_)
  · exact kw_throw0 C Ce ti_PF_177_179 (by simp) (fun _ _ => rfl) (Nat.le_of_ble_eq_true rfl) (Nat.le_of_ble_eq_true rfl) (Nat.le_of_ble_eq_true rfl) (Nat.le_of_ble_eq_true rfl) d_PF_filter_22 d_PF_filter_25 d_PF_filter_26 d_PF_filter_29 rfl
  · refine kw_if_lt (tgt := 22) C d_PF_filter_5 (by decide) ?_ ?_
    · exact kw_wk (hk2 () σ1) ⟨Or.inl rfl, Or.inl rfl, trivial⟩
    · refine kw_iload_n C d_PF_filter_8 rfl ?_
      refine kw_aload_n C d_PF_filter_9 rfl ?_
      refine kw_getR C fi_PF_65 rfl rfl ht d_PF_filter_10 (fun o5 ho5 => ?_)
      refine kw_getR C fi_PF_98 rfl rfl ho5 d_PF_filter_13 (fun o6 ho6 => ?_)
      refine kw_getI C fi_PF_160 (Or.inl rfl) ho6 d_PF_filter_16 ?_
      refine kw_icmp_lt (tgt := 30) C d_PF_filter_19 (by decide) ?_ ?_
      · refine kw_aload_n C d_PF_filter_30 rfl ?_
        refine kw_getR C fi_PF_65 rfl rfl ht d_PF_filter_31 (fun o7 ho7 => ?_)
        refine kw_getR C fi_PF_98 rfl rfl ho7 d_PF_filter_34 (fun o8 ho8 => ?_)
        refine kw_getR C fi_PF_200 rfl rfl ho8 d_PF_filter_37 (fun o9 ho9 => ?_)
        refine kw_iload_n C d_PF_filter_40 rfl ?_
        refine kw_iald C (Or.inl ⟨ho9.1, ho9.2.1⟩) d_PF_filter_41 ?_
        refine kw_j (α := Unit) (pcj := 59) (Lj := fun x11 => [some (.ref t), some (.int a0)]) (stj := fun x11 => []) (fun x11 σ12 => ?_) (fun k10 hk10 => ?_)
        · refine kw_aload_n C d_PF_filter_59 rfl ?_
          refine kw_getR C fi_PF_26 rfl rfl ht d_PF_filter_60 (fun o13 ho13 => ?_)
          refine kw_aload_n C d_PF_filter_63 rfl ?_
          refine kw_getR C fi_PF_65 rfl rfl ht d_PF_filter_64 (fun o14 ho14 => ?_)
          refine kw_iload_n C d_PF_filter_67 rfl ?_
          refine kw_callVv (cl' := 1) (sl' := 6) (As := [.ref o14, .int a0]) C (c_Rows_gather hl n ids ho13 ho14 a0 σ12) mi_PF_203 v_Rows_gather ⟨_, _, rfl⟩ ho13 ⟨Nat.le_of_ble_eq_true rfl, Nat.le_of_ble_eq_true rfl⟩ (Nat.le_of_ble_eq_true rfl) ⟨Nat.le_of_ble_eq_true rfl, Nat.le_of_ble_eq_true rfl⟩ ⟨rfl, rfl⟩ rfl d_PF_filter_68 (fun σ15 => ?_)
          refine kw_aload_n C d_PF_filter_71 rfl ?_
          refine kw_getR C fi_PF_26 rfl rfl ht d_PF_filter_72 (fun o16 ho16 => ?_)
          refine kw_aload_n C d_PF_filter_75 rfl ?_
          refine kw_getR C fi_PF_65 rfl rfl ht d_PF_filter_76 (fun o17 ho17 => ?_)
          refine kw_getR C fi_PF_98 rfl rfl ho17 d_PF_filter_79 (fun o18 ho18 => ?_)
          refine kw_iload_n C d_PF_filter_82 rfl ?_
          refine kw_callVi (cl' := 1) (sl' := 6) (As := [.ref o18, .int a0]) C (c_Rows_bestFilter hl n ids ho16 ho18 a0 σ15) mi_PF_207 v_Rows_bestFilter ⟨_, _, rfl⟩ ho16 ⟨Nat.le_of_ble_eq_true rfl, Nat.le_of_ble_eq_true rfl⟩ (Nat.le_of_ble_eq_true rfl) ⟨Nat.le_of_ble_eq_true rfl, Nat.le_of_ble_eq_true rfl⟩ ⟨rfl, rfl⟩ rfl d_PF_filter_83 (fun x19 σ20 => ?_)
          exact kw_iret C Ce rfl (by simp) (fun _ _ => rfl) (Nat.le_of_ble_eq_true rfl) (Nat.le_of_ble_eq_true rfl) rfl d_PF_filter_86
        · refine kw_if_le (tgt := 59) C d_PF_filter_42 (by decide) ?_ ?_
          · exact kw_wk (hk10 () σ1) ⟨Or.inr rfl, Or.inr rfl, trivial⟩
          · refine kw_aload_n C d_PF_filter_45 rfl ?_
            refine kw_getR C fi_PF_26 rfl rfl ht d_PF_filter_46 (fun o21 ho21 => ?_)
            refine kw_aload_n C d_PF_filter_49 rfl ?_
            refine kw_getR C fi_PF_65 rfl rfl ht d_PF_filter_50 (fun o22 ho22 => ?_)
            refine kw_iload_n C d_PF_filter_53 rfl ?_
            refine kw_iconst (v := 1) C d_PF_filter_54 (by decide) ?_
            refine kw_isub C d_PF_filter_55 ?_
            refine kw_callVv (cl' := 1) (sl' := 6) (As := [.ref o22, .int (a0 - 1)]) C (c_Rows_gather hl n ids ho21 ho22 (a0 - 1) σ1) mi_PF_203 v_Rows_gather ⟨_, _, rfl⟩ ho21 ⟨Nat.le_of_ble_eq_true rfl, Nat.le_of_ble_eq_true rfl⟩ (Nat.le_of_ble_eq_true rfl) ⟨Nat.le_of_ble_eq_true rfl, Nat.le_of_ble_eq_true rfl⟩ ⟨rfl, rfl⟩ rfl d_PF_filter_56 (fun σ23 => ?_)
            exact kw_wk (hk10 () σ23) ⟨Or.inr rfl, Or.inr rfl, trivial⟩
      · exact kw_wk (hk2 () σ1) ⟨Or.inl rfl, Or.inl rfl, trivial⟩
/-! Writer_startPiece -/
def rm_Writer_startPiece : Room := { frames := 3, cells := 0, slots := 0, locals := 63 }
def F_Writer_startPiece (n : Nat) (t : Nat) (a0 : Int32) (σ : Mm) : Option (Mm) :=
Option.bind (gR σ (64 * t + 0)) fun o1 =>
kf_let (pS σ (64 * t + 3) (gS σ (64 * o1 + 1))) fun σ2 =>
Option.bind (gR σ2 (64 * t + 0)) fun o3 =>
Option.bind (F_Tape_addNumber n o3 0 σ2) fun σ4 =>
Option.bind (gR σ4 (64 * t + 0)) fun o5 =>
Option.bind (F_Tape_addNumber n o5 a0 σ4) fun σ6 =>
some σ6
theorem d_Writer_startPiece_0 : decode prog_12_method_7_code 0 = .ok (.aload_n 0, 1) := by decide +kernel
theorem d_Writer_startPiece_1 : decode prog_12_method_7_code 1 = .ok (.aload_n 0, 1) := by decide +kernel
theorem d_Writer_startPiece_2 : decode prog_12_method_7_code 2 = .ok (.getfield 7, 3) := by decide +kernel
theorem d_Writer_startPiece_5 : decode prog_12_method_7_code 5 = .ok (.getfield 32, 3) := by decide +kernel
theorem d_Writer_startPiece_8 : decode prog_12_method_7_code 8 = .ok (.putfield 128, 3) := by decide +kernel
theorem d_Writer_startPiece_11 : decode prog_12_method_7_code 11 = .ok (.aload_n 0, 1) := by decide +kernel
theorem d_Writer_startPiece_12 : decode prog_12_method_7_code 12 = .ok (.getfield 7, 3) := by decide +kernel
theorem d_Writer_startPiece_15 : decode prog_12_method_7_code 15 = .ok (.iconst 0, 1) := by decide +kernel
theorem d_Writer_startPiece_16 : decode prog_12_method_7_code 16 = .ok (.invokevirtual 97, 3) := by decide +kernel
theorem d_Writer_startPiece_19 : decode prog_12_method_7_code 19 = .ok (.aload_n 0, 1) := by decide +kernel
theorem d_Writer_startPiece_20 : decode prog_12_method_7_code 20 = .ok (.getfield 7, 3) := by decide +kernel
theorem d_Writer_startPiece_23 : decode prog_12_method_7_code 23 = .ok (.iload_n 1, 1) := by decide +kernel
theorem d_Writer_startPiece_24 : decode prog_12_method_7_code 24 = .ok (.invokevirtual 97, 3) := by decide +kernel
theorem d_Writer_startPiece_27 : decode prog_12_method_7_code 27 = .ok (.return_, 1) := by decide +kernel
set_option maxRecDepth 100000 in
set_option maxHeartbeats 4000000 in
theorem c_Writer_startPiece {l0 : Launch} (hl : l0.stackTraces = false) (n : Nat) (ids : List Nat) {t : Nat} (ht : mm_ok ids t 1 8) (a0 : Int32) (σ : Mm) : kw_C l0 y_Writer_startPiece (Cond.code y_Writer_startPiece prog_12_method_7_code 2 none :: kw_Ts) rm_Writer_startPiece kw_ov ids [] [.ref t, .int a0] σ (F_Writer_startPiece n t a0 σ) := by
  refine kw_start (L0 := [some (.ref t), some (.int a0)]) hl (by decide +kernel) (Nat.le_of_ble_eq_true rfl) rfl (fun Γ ad C Ce => ?_)
  unfold F_Writer_startPiece
  refine kw_aload_n C d_Writer_startPiece_0 rfl ?_
  refine kw_aload_n C d_Writer_startPiece_1 rfl ?_
  refine kw_getR C fi_Writer_7 rfl rfl ht d_Writer_startPiece_2 (fun o1 ho1 => ?_)
  refine kw_getI C fi_Writer_32 (Or.inl rfl) ho1 d_Writer_startPiece_5 ?_
  refine kw_putI C fi_Writer_128 rfl ht d_Writer_startPiece_8 (fun σ2 => ?_)
  refine kw_aload_n C d_Writer_startPiece_11 rfl ?_
  refine kw_getR C fi_Writer_7 rfl rfl ht d_Writer_startPiece_12 (fun o3 ho3 => ?_)
  refine kw_iconst (v := 0) C d_Writer_startPiece_15 (by decide) ?_
  refine kw_callVv (cl' := 0) (sl' := 0) (As := [.int 0]) C (c_Tape_addNumber hl n ids ho3 0 σ2) mi_Writer_97 v_Tape_addNumber ⟨_, _, rfl⟩ ho3 ⟨Nat.le_of_ble_eq_true rfl, Nat.le_of_ble_eq_true rfl⟩ (Nat.le_of_ble_eq_true rfl) ⟨Nat.le_of_ble_eq_true rfl, Nat.le_of_ble_eq_true rfl⟩ ⟨rfl, rfl⟩ rfl d_Writer_startPiece_16 (fun σ4 => ?_)
  refine kw_aload_n C d_Writer_startPiece_19 rfl ?_
  refine kw_getR C fi_Writer_7 rfl rfl ht d_Writer_startPiece_20 (fun o5 ho5 => ?_)
  refine kw_iload_n C d_Writer_startPiece_23 rfl ?_
  refine kw_callVv (cl' := 0) (sl' := 0) (As := [.int a0]) C (c_Tape_addNumber hl n ids ho5 a0 σ4) mi_Writer_97 v_Tape_addNumber ⟨_, _, rfl⟩ ho5 ⟨Nat.le_of_ble_eq_true rfl, Nat.le_of_ble_eq_true rfl⟩ (Nat.le_of_ble_eq_true rfl) ⟨Nat.le_of_ble_eq_true rfl, Nat.le_of_ble_eq_true rfl⟩ ⟨rfl, rfl⟩ rfl d_Writer_startPiece_24 (fun σ6 => ?_)
  exact kw_vret C Ce rfl (by simp) (fun _ _ => rfl) (Nat.le_of_ble_eq_true rfl) (Nat.le_of_ble_eq_true rfl) rfl d_Writer_startPiece_27
/-! Tape_putNumber -/
def rm_Tape_putNumber : Room := { frames := 0, cells := 0, slots := 0, locals := 0 }
def F_Tape_putNumber (n : Nat) (t : Nat) (a0 : Int32) (a1 : Int32) (σ : Mm) : Option (Mm) :=
Option.bind (gR σ (64 * t + 0)) fun o1 =>
kf_in a0 (mm_kd o1).2.2 <| kf_let (pB σ o1 a0.toNatClampNeg ((a1.toUInt32 >>> ((24 : Int32).toUInt32 &&& Int32.toUInt32 31)).toInt32)) fun σ2 =>
Option.bind (gR σ2 (64 * t + 0)) fun o3 =>
kf_in (a0 + 1) (mm_kd o3).2.2 <| kf_let (pB σ2 o3 (a0 + 1).toNatClampNeg ((a1 >>> (16 &&& 31)) &&& 255)) fun σ4 =>
Option.bind (gR σ4 (64 * t + 0)) fun o5 =>
kf_in (a0 + 2) (mm_kd o5).2.2 <| kf_let (pB σ4 o5 (a0 + 2).toNatClampNeg ((a1 >>> (8 &&& 31)) &&& 255)) fun σ6 =>
Option.bind (gR σ6 (64 * t + 0)) fun o7 =>
kf_in (a0 + 3) (mm_kd o7).2.2 <| kf_let (pB σ6 o7 (a0 + 3).toNatClampNeg (a1 &&& 255)) fun σ8 =>
some σ8
theorem d_Tape_putNumber_0 : decode prog_10_method_6_code 0 = .ok (.aload_n 0, 1) := by decide +kernel
theorem d_Tape_putNumber_1 : decode prog_10_method_6_code 1 = .ok (.getfield 10, 3) := by decide +kernel
theorem d_Tape_putNumber_4 : decode prog_10_method_6_code 4 = .ok (.iload_n 1, 1) := by decide +kernel
theorem d_Tape_putNumber_5 : decode prog_10_method_6_code 5 = .ok (.iload_n 2, 1) := by decide +kernel
theorem d_Tape_putNumber_6 : decode prog_10_method_6_code 6 = .ok (.bipush 24, 2) := by decide +kernel
theorem d_Tape_putNumber_8 : decode prog_10_method_6_code 8 = .ok (.iushr, 1) := by decide +kernel
theorem d_Tape_putNumber_9 : decode prog_10_method_6_code 9 = .ok (.iastore, 1) := by decide +kernel
theorem d_Tape_putNumber_10 : decode prog_10_method_6_code 10 = .ok (.aload_n 0, 1) := by decide +kernel
theorem d_Tape_putNumber_11 : decode prog_10_method_6_code 11 = .ok (.getfield 10, 3) := by decide +kernel
theorem d_Tape_putNumber_14 : decode prog_10_method_6_code 14 = .ok (.iload_n 1, 1) := by decide +kernel
theorem d_Tape_putNumber_15 : decode prog_10_method_6_code 15 = .ok (.iconst 1, 1) := by decide +kernel
theorem d_Tape_putNumber_16 : decode prog_10_method_6_code 16 = .ok (.iadd, 1) := by decide +kernel
theorem d_Tape_putNumber_17 : decode prog_10_method_6_code 17 = .ok (.iload_n 2, 1) := by decide +kernel
theorem d_Tape_putNumber_18 : decode prog_10_method_6_code 18 = .ok (.bipush 16, 2) := by decide +kernel
theorem d_Tape_putNumber_20 : decode prog_10_method_6_code 20 = .ok (.ishr, 1) := by decide +kernel
theorem d_Tape_putNumber_21 : decode prog_10_method_6_code 21 = .ok (.sipush 255, 3) := by decide +kernel
theorem d_Tape_putNumber_24 : decode prog_10_method_6_code 24 = .ok (.iand, 1) := by decide +kernel
theorem d_Tape_putNumber_25 : decode prog_10_method_6_code 25 = .ok (.iastore, 1) := by decide +kernel
theorem d_Tape_putNumber_26 : decode prog_10_method_6_code 26 = .ok (.aload_n 0, 1) := by decide +kernel
theorem d_Tape_putNumber_27 : decode prog_10_method_6_code 27 = .ok (.getfield 10, 3) := by decide +kernel
theorem d_Tape_putNumber_30 : decode prog_10_method_6_code 30 = .ok (.iload_n 1, 1) := by decide +kernel
theorem d_Tape_putNumber_31 : decode prog_10_method_6_code 31 = .ok (.iconst 2, 1) := by decide +kernel
theorem d_Tape_putNumber_32 : decode prog_10_method_6_code 32 = .ok (.iadd, 1) := by decide +kernel
theorem d_Tape_putNumber_33 : decode prog_10_method_6_code 33 = .ok (.iload_n 2, 1) := by decide +kernel
theorem d_Tape_putNumber_34 : decode prog_10_method_6_code 34 = .ok (.bipush 8, 2) := by decide +kernel
theorem d_Tape_putNumber_36 : decode prog_10_method_6_code 36 = .ok (.ishr, 1) := by decide +kernel
theorem d_Tape_putNumber_37 : decode prog_10_method_6_code 37 = .ok (.sipush 255, 3) := by decide +kernel
theorem d_Tape_putNumber_40 : decode prog_10_method_6_code 40 = .ok (.iand, 1) := by decide +kernel
theorem d_Tape_putNumber_41 : decode prog_10_method_6_code 41 = .ok (.iastore, 1) := by decide +kernel
theorem d_Tape_putNumber_42 : decode prog_10_method_6_code 42 = .ok (.aload_n 0, 1) := by decide +kernel
theorem d_Tape_putNumber_43 : decode prog_10_method_6_code 43 = .ok (.getfield 10, 3) := by decide +kernel
theorem d_Tape_putNumber_46 : decode prog_10_method_6_code 46 = .ok (.iload_n 1, 1) := by decide +kernel
theorem d_Tape_putNumber_47 : decode prog_10_method_6_code 47 = .ok (.iconst 3, 1) := by decide +kernel
theorem d_Tape_putNumber_48 : decode prog_10_method_6_code 48 = .ok (.iadd, 1) := by decide +kernel
theorem d_Tape_putNumber_49 : decode prog_10_method_6_code 49 = .ok (.iload_n 2, 1) := by decide +kernel
theorem d_Tape_putNumber_50 : decode prog_10_method_6_code 50 = .ok (.sipush 255, 3) := by decide +kernel
theorem d_Tape_putNumber_53 : decode prog_10_method_6_code 53 = .ok (.iand, 1) := by decide +kernel
theorem d_Tape_putNumber_54 : decode prog_10_method_6_code 54 = .ok (.iastore, 1) := by decide +kernel
theorem d_Tape_putNumber_55 : decode prog_10_method_6_code 55 = .ok (.return_, 1) := by decide +kernel
set_option maxRecDepth 100000 in
set_option maxHeartbeats 4000000 in
theorem c_Tape_putNumber {l0 : Launch} (hl : l0.stackTraces = false) (n : Nat) (ids : List Nat) {t : Nat} (ht : mm_ok ids t 1 1) (a0 : Int32) (a1 : Int32) (σ : Mm) : kw_C l0 y_Tape_putNumber (Cond.code y_Tape_putNumber prog_10_method_6_code 3 none :: kw_Ts) rm_Tape_putNumber kw_ov ids [] [.ref t, .int a0, .int a1] σ (F_Tape_putNumber n t a0 a1 σ) := by
  refine kw_start (L0 := [some (.ref t), some (.int a0), some (.int a1)]) hl (by decide +kernel) (Nat.le_of_ble_eq_true rfl) rfl (fun Γ ad C Ce => ?_)
  unfold F_Tape_putNumber
  refine kw_aload_n C d_Tape_putNumber_0 rfl ?_
  refine kw_getR C fi_Tape_10 rfl rfl ht d_Tape_putNumber_1 (fun o1 ho1 => ?_)
  refine kw_iload_n C d_Tape_putNumber_4 rfl ?_
  refine kw_iload_n C d_Tape_putNumber_5 rfl ?_
  refine kw_bipush (v := 24) C d_Tape_putNumber_6 (by decide) ?_
  refine kw_iushr C d_Tape_putNumber_8 ?_
  refine kw_iast C ho1 d_Tape_putNumber_9 (fun σ2 => ?_)
  refine kw_aload_n C d_Tape_putNumber_10 rfl ?_
  refine kw_getR C fi_Tape_10 rfl rfl ht d_Tape_putNumber_11 (fun o3 ho3 => ?_)
  refine kw_iload_n C d_Tape_putNumber_14 rfl ?_
  refine kw_iconst (v := 1) C d_Tape_putNumber_15 (by decide) ?_
  refine kw_iadd C d_Tape_putNumber_16 ?_
  refine kw_iload_n C d_Tape_putNumber_17 rfl ?_
  refine kw_bipush (v := 16) C d_Tape_putNumber_18 (by decide) ?_
  refine kw_ishr C d_Tape_putNumber_20 ?_
  refine kw_sipush (v := 255) C d_Tape_putNumber_21 (by decide) ?_
  refine kw_iand C d_Tape_putNumber_24 ?_
  refine kw_iast C ho3 d_Tape_putNumber_25 (fun σ4 => ?_)
  refine kw_aload_n C d_Tape_putNumber_26 rfl ?_
  refine kw_getR C fi_Tape_10 rfl rfl ht d_Tape_putNumber_27 (fun o5 ho5 => ?_)
  refine kw_iload_n C d_Tape_putNumber_30 rfl ?_
  refine kw_iconst (v := 2) C d_Tape_putNumber_31 (by decide) ?_
  refine kw_iadd C d_Tape_putNumber_32 ?_
  refine kw_iload_n C d_Tape_putNumber_33 rfl ?_
  refine kw_bipush (v := 8) C d_Tape_putNumber_34 (by decide) ?_
  refine kw_ishr C d_Tape_putNumber_36 ?_
  refine kw_sipush (v := 255) C d_Tape_putNumber_37 (by decide) ?_
  refine kw_iand C d_Tape_putNumber_40 ?_
  refine kw_iast C ho5 d_Tape_putNumber_41 (fun σ6 => ?_)
  refine kw_aload_n C d_Tape_putNumber_42 rfl ?_
  refine kw_getR C fi_Tape_10 rfl rfl ht d_Tape_putNumber_43 (fun o7 ho7 => ?_)
  refine kw_iload_n C d_Tape_putNumber_46 rfl ?_
  refine kw_iconst (v := 3) C d_Tape_putNumber_47 (by decide) ?_
  refine kw_iadd C d_Tape_putNumber_48 ?_
  refine kw_iload_n C d_Tape_putNumber_49 rfl ?_
  refine kw_sipush (v := 255) C d_Tape_putNumber_50 (by decide) ?_
  refine kw_iand C d_Tape_putNumber_53 ?_
  refine kw_iast C ho7 d_Tape_putNumber_54 (fun σ8 => ?_)
  exact kw_vret C Ce rfl (by simp) (fun _ _ => rfl) (Nat.le_of_ble_eq_true rfl) (Nat.le_of_ble_eq_true rfl) rfl d_Tape_putNumber_55
