def y_Md_passY : MethodName := ⟨"PictureFileModel", "passY", "(I)I"⟩
theorem w_Md_passY : Cond.code y_Md_passY prog_14_method_19_code 1 (some .int) ∈ kw_Ts := (kw_m6 (i := 179) (by decide +kernel) (by decide +kernel))
def y_Md_stepX : MethodName := ⟨"PictureFileModel", "stepX", "(I)I"⟩
theorem w_Md_stepX : Cond.code y_Md_stepX prog_14_method_20_code 1 (some .int) ∈ kw_Ts := (kw_m6 (i := 173) (by decide +kernel) (by decide +kernel))
def y_Md_stepY : MethodName := ⟨"PictureFileModel", "stepY", "(I)I"⟩
theorem w_Md_stepY : Cond.code y_Md_stepY prog_14_method_21_code 1 (some .int) ∈ kw_Ts := (kw_m6 (i := 182) (by decide +kernel) (by decide +kernel))
def y_Md_points : MethodName := ⟨"PictureFileModel", "points", "(III)I"⟩
theorem w_Md_points : Cond.code y_Md_points prog_14_method_22_code 3 (some .int) ∈ kw_Ts := (kw_m6 (i := 176) (by decide +kernel) (by decide +kernel))
theorem fi_Md_97 : kw_fi "PictureFileModel" 97 12 38 false := ⟨mmR_12, mmT_12, 57, rfl, rfl, by decide, mmI_12, mmY_12, mmN_12, rfl, (kw_m5 (i := 181) (by decide +kernel) (by decide +kernel))⟩
theorem fi_Md_100 : kw_fi "PictureFileModel" 100 12 39 false := ⟨mmR_12, mmT_12, 57, rfl, rfl, by decide, mmI_12, mmY_12, mmN_12, rfl, (kw_m5 (i := 182) (by decide +kernel) (by decide +kernel))⟩
theorem mi_Md_103 : kw_mi "PictureFileModel" 103 y_Md_passX prog_14_method_18_code 1 (some .int) 1 := ⟨(kw_m6 (i := 168) (by decide +kernel) (by decide +kernel)), w_Md_passX, in_Md, by decide +kernel, by decide +kernel, by decide +kernel⟩
theorem s_Md_passX : Cond.static y_Md_passX ∈ kw_Ts := (kw_m6 (i := 169) (by decide +kernel) (by decide +kernel))
theorem mi_Md_106 : kw_mi "PictureFileModel" 106 y_Md_stepX prog_14_method_20_code 1 (some .int) 1 := ⟨(kw_m6 (i := 171) (by decide +kernel) (by decide +kernel)), w_Md_stepX, in_Md, by decide +kernel, by decide +kernel, by decide +kernel⟩
theorem s_Md_stepX : Cond.static y_Md_stepX ∈ kw_Ts := (kw_m6 (i := 172) (by decide +kernel) (by decide +kernel))
theorem mi_Md_109 : kw_mi "PictureFileModel" 109 y_Md_points prog_14_method_22_code 3 (some .int) 3 := ⟨(kw_m6 (i := 174) (by decide +kernel) (by decide +kernel)), w_Md_points, in_Md, by decide +kernel, by decide +kernel, by decide +kernel⟩
theorem s_Md_points : Cond.static y_Md_points ∈ kw_Ts := (kw_m6 (i := 175) (by decide +kernel) (by decide +kernel))
theorem fi_Md_43 : kw_fi "PictureFileModel" 43 12 33 true := ⟨mmR_12, mmT_12, 57, rfl, rfl, by decide, mmI_12, mmY_12, mmN_12, rfl, (kw_m5 (i := 176) (by decide +kernel) (by decide +kernel))⟩
theorem fi_Md_46 : kw_fi "PictureFileModel" 46 12 34 true := ⟨mmR_12, mmT_12, 57, rfl, rfl, by decide, mmI_12, mmY_12, mmN_12, rfl, (kw_m5 (i := 177) (by decide +kernel) (by decide +kernel))⟩
theorem fi_Md_49 : kw_fi "PictureFileModel" 49 12 35 true := ⟨mmR_12, mmT_12, 57, rfl, rfl, by decide, mmI_12, mmY_12, mmN_12, rfl, (kw_m5 (i := 178) (by decide +kernel) (by decide +kernel))⟩
theorem fi_Md_55 : kw_fi "PictureFileModel" 55 12 37 true := ⟨mmR_12, mmT_12, 57, rfl, rfl, by decide, mmI_12, mmY_12, mmN_12, rfl, (kw_m5 (i := 180) (by decide +kernel) (by decide +kernel))⟩
theorem fi_Md_52 : kw_fi "PictureFileModel" 52 12 36 true := ⟨mmR_12, mmT_12, 57, rfl, rfl, by decide, mmI_12, mmY_12, mmN_12, rfl, (kw_m5 (i := 179) (by decide +kernel) (by decide +kernel))⟩
theorem mi_Md_119 : kw_mi "PictureFileModel" 119 y_Md_channels prog_14_method_16_code 1 (some .int) 1 := ⟨(kw_m6 (i := 183) (by decide +kernel) (by decide +kernel)), w_Md_channels, in_Md, by decide +kernel, by decide +kernel, by decide +kernel⟩
theorem s_Md_channels : Cond.static y_Md_channels ∈ kw_Ts := (kw_m6 (i := 184) (by decide +kernel) (by decide +kernel))
theorem mi_Md_113 : kw_mi "PictureFileModel" 113 y_Md_passY prog_14_method_19_code 1 (some .int) 1 := ⟨(kw_m6 (i := 177) (by decide +kernel) (by decide +kernel)), w_Md_passY, in_Md, by decide +kernel, by decide +kernel, by decide +kernel⟩
theorem s_Md_passY : Cond.static y_Md_passY ∈ kw_Ts := (kw_m6 (i := 178) (by decide +kernel) (by decide +kernel))
theorem mi_Md_116 : kw_mi "PictureFileModel" 116 y_Md_stepY prog_14_method_21_code 1 (some .int) 1 := ⟨(kw_m6 (i := 180) (by decide +kernel) (by decide +kernel)), w_Md_stepY, in_Md, by decide +kernel, by decide +kernel, by decide +kernel⟩
theorem s_Md_stepY : Cond.static y_Md_stepY ∈ kw_Ts := (kw_m6 (i := 181) (by decide +kernel) (by decide +kernel))
def y_Md_rows : MethodName := ⟨"PictureFileModel", "rows", "(IIIIZ)V"⟩
theorem w_Md_rows : Cond.code y_Md_rows prog_14_method_23_code 10 none ∈ kw_Ts := (kw_m6 (i := 167) (by decide +kernel) (by decide +kernel))
def y_Md_pointOf : MethodName := ⟨"PictureFileModel", "pointOf", "(III)I"⟩
theorem w_Md_pointOf : Cond.code y_Md_pointOf prog_14_method_24_code 5 (some .int) ∈ kw_Ts := (kw_m7 (i := 68) (by decide +kernel) (by decide +kernel))
def y_Md_isType : MethodName := ⟨"PictureFileModel", "isType", "(ICCCC)Z"⟩
theorem w_Md_isType : Cond.code y_Md_isType prog_14_method_25_code 6 (some .boolean) ∈ kw_Ts := (kw_m6 (i := 147) (by decide +kernel) (by decide +kernel))
def y_Md_isLetter : MethodName := ⟨"PictureFileModel", "isLetter", "(I)Z"⟩
theorem w_Md_isLetter : Cond.code y_Md_isLetter prog_14_method_26_code 1 (some .boolean) ∈ kw_Ts := (kw_m6 (i := 138) (by decide +kernel) (by decide +kernel))
theorem mi_Md_159 : kw_mi "PictureFileModel" 159 y_Md_number prog_14_method_12_code 2 (some .long) 1 := ⟨(kw_m6 (i := 131) (by decide +kernel) (by decide +kernel)), w_Md_number, in_Md, by decide +kernel, by decide +kernel, by decide +kernel⟩
theorem v_Md_number : Cond.instanceMethod y_Md_number ∈ kw_Ts ∧ Cond.selects y_Md_number.cls y_Md_number y_Md_number ∈ kw_Ts := ⟨(kw_m6 (i := 133) (by decide +kernel) (by decide +kernel)), (kw_sel (i := 49) (by decide +kernel) (by decide +kernel))⟩
theorem k_Md_163 : Cond.constantLong "PictureFileModel" 163 2147483647 ∈ kw_Ts := (kw_m6 (i := 135) (by decide +kernel) (by decide +kernel))
theorem k_Md_168 : Cond.constantLong "PictureFileModel" 168 12 ∈ kw_Ts := (kw_m6 (i := 139) (by decide +kernel) (by decide +kernel))
theorem mi_Md_122 : kw_mi "PictureFileModel" 122 y_Md_flaw prog_14_method_15_code 3 (some .boolean) 2 := ⟨(kw_m6 (i := 123) (by decide +kernel) (by decide +kernel)), w_Md_flaw, in_Md, by decide +kernel, by decide +kernel, by decide +kernel⟩
theorem v_Md_flaw : Cond.instanceMethod y_Md_flaw ∈ kw_Ts ∧ Cond.selects y_Md_flaw.cls y_Md_flaw y_Md_flaw ∈ kw_Ts := ⟨(kw_m6 (i := 125) (by decide +kernel) (by decide +kernel)), (kw_sel (i := 47) (by decide +kernel) (by decide +kernel))⟩
theorem mi_Md_165 : kw_mi "PictureFileModel" 165 y_Md_isLetter prog_14_method_26_code 1 (some .boolean) 1 := ⟨(kw_m6 (i := 136) (by decide +kernel) (by decide +kernel)), w_Md_isLetter, in_Md, by decide +kernel, by decide +kernel, by decide +kernel⟩
theorem s_Md_isLetter : Cond.static y_Md_isLetter ∈ kw_Ts := (kw_m6 (i := 137) (by decide +kernel) (by decide +kernel))
def y_Md_isPiece : MethodName := ⟨"PictureFileModel", "isPiece", "(I)Z"⟩
theorem w_Md_isPiece : Cond.code y_Md_isPiece prog_14_method_28_code 5 (some .boolean) ∈ kw_Ts := (kw_m6 (i := 130) (by decide +kernel) (by decide +kernel))
theorem mi_Md_155 : kw_mi "PictureFileModel" 155 y_Md_isType prog_14_method_25_code 6 (some .boolean) 5 := ⟨(kw_m6 (i := 144) (by decide +kernel) (by decide +kernel)), w_Md_isType, in_Md, by decide +kernel, by decide +kernel, by decide +kernel⟩
theorem v_Md_isType : Cond.instanceMethod y_Md_isType ∈ kw_Ts ∧ Cond.selects y_Md_isType.cls y_Md_isType y_Md_isType ∈ kw_Ts := ⟨(kw_m6 (i := 146) (by decide +kernel) (by decide +kernel)), (kw_sel (i := 51) (by decide +kernel) (by decide +kernel))⟩
theorem fi_Md_133 : kw_fi "PictureFileModel" 133 12 42 false := ⟨mmR_12, mmT_12, 57, rfl, rfl, by decide, mmI_12, mmY_12, mmN_12, rfl, (kw_m5 (i := 185) (by decide +kernel) (by decide +kernel))⟩
theorem fi_Md_170 : kw_fi "PictureFileModel" 170 12 18 false := ⟨mmR_12, mmT_12, 57, rfl, rfl, by decide, mmI_12, mmY_12, mmN_12, rfl, (kw_m5 (i := 161) (by decide +kernel) (by decide +kernel))⟩
theorem fi_Md_126 : kw_fi "PictureFileModel" 126 12 40 false := ⟨mmR_12, mmT_12, 57, rfl, rfl, by decide, mmI_12, mmY_12, mmN_12, rfl, (kw_m5 (i := 183) (by decide +kernel) (by decide +kernel))⟩
theorem fi_Md_130 : kw_fi "PictureFileModel" 130 12 41 false := ⟨mmR_12, mmT_12, 57, rfl, rfl, by decide, mmI_12, mmY_12, mmN_12, rfl, (kw_m5 (i := 184) (by decide +kernel) (by decide +kernel))⟩
def y_Md_mayStand : MethodName := ⟨"PictureFileModel", "mayStand", "(I)Z"⟩
theorem w_Md_mayStand : Cond.code y_Md_mayStand prog_14_method_29_code 5 (some .boolean) ∈ kw_Ts := (kw_m6 (i := 143) (by decide +kernel) (by decide +kernel))
/-! Md_passY -/
def rm_Md_passY : Room := { frames := 0, cells := 0, slots := 0, locals := 0 }
def F_Md_passY (n : Nat) (a0 : Int32) (σ : Mm) : Option (Int32 × Mm) :=
kf_j (α := Int32) (fun x2 σ3 =>
some (x2, σ3)) fun k1 =>
if a0 = 2 then (
k1 4 σ) else (
if a0 = 4 then (
k1 2 σ) else (
if a0 = 6 then (
k1 1 σ) else (
k1 0 σ)))
theorem d_Md_passY_0 : decode prog_14_method_19_code 0 = .ok (.iload_n 0, 1) := by decide +kernel
theorem d_Md_passY_1 : decode prog_14_method_19_code 1 = .ok (.iconst 2, 1) := by decide +kernel
theorem d_Md_passY_2 : decode prog_14_method_19_code 2 = .ok (.if_icmp .ne 7, 3) := by decide +kernel
theorem d_Md_passY_5 : decode prog_14_method_19_code 5 = .ok (.iconst 4, 1) := by decide +kernel
theorem d_Md_passY_6 : decode prog_14_method_19_code 6 = .ok (.goto 23, 3) := by decide +kernel
theorem d_Md_passY_9 : decode prog_14_method_19_code 9 = .ok (.iload_n 0, 1) := by decide +kernel
theorem d_Md_passY_10 : decode prog_14_method_19_code 10 = .ok (.iconst 4, 1) := by decide +kernel
theorem d_Md_passY_11 : decode prog_14_method_19_code 11 = .ok (.if_icmp .ne 7, 3) := by decide +kernel
theorem d_Md_passY_14 : decode prog_14_method_19_code 14 = .ok (.iconst 2, 1) := by decide +kernel
theorem d_Md_passY_15 : decode prog_14_method_19_code 15 = .ok (.goto 14, 3) := by decide +kernel
theorem d_Md_passY_18 : decode prog_14_method_19_code 18 = .ok (.iload_n 0, 1) := by decide +kernel
theorem d_Md_passY_19 : decode prog_14_method_19_code 19 = .ok (.bipush 6, 2) := by decide +kernel
theorem d_Md_passY_21 : decode prog_14_method_19_code 21 = .ok (.if_icmp .ne 7, 3) := by decide +kernel
theorem d_Md_passY_24 : decode prog_14_method_19_code 24 = .ok (.iconst 1, 1) := by decide +kernel
theorem d_Md_passY_25 : decode prog_14_method_19_code 25 = .ok (.goto 4, 3) := by decide +kernel
theorem d_Md_passY_28 : decode prog_14_method_19_code 28 = .ok (.iconst 0, 1) := by decide +kernel
theorem d_Md_passY_29 : decode prog_14_method_19_code 29 = .ok (.ireturn, 1) := by decide +kernel
set_option maxRecDepth 100000 in
set_option maxHeartbeats 4000000 in
theorem c_Md_passY {l0 : Launch} (hl : l0.stackTraces = false) (n : Nat) (ids : List Nat)  (a0 : Int32) (σ : Mm) : kw_C l0 y_Md_passY (Cond.code y_Md_passY prog_14_method_19_code 1 (some .int) :: kw_Ts) rm_Md_passY kw_oi ids [] [.int a0] σ (F_Md_passY n a0 σ) := by
  refine kw_start (L0 := [some (.int a0)]) hl (by decide +kernel) (Nat.le_of_ble_eq_true rfl) rfl (fun Γ ad C Ce => ?_)
  unfold F_Md_passY
  refine kw_iload_n C d_Md_passY_0 rfl ?_
  refine kw_iconst (v := 2) C d_Md_passY_1 (by decide) ?_
  refine kw_j (α := Int32) (pcj := 29) (Lj := fun x2 => [none]) (stj := fun x2 => [.int x2]) (fun x2 σ3 => ?_) (fun k1 hk1 => ?_)
  · exact kw_iret C Ce rfl (by simp) (fun _ _ => rfl) (Nat.le_of_ble_eq_true rfl) (Nat.le_of_ble_eq_true rfl) rfl d_Md_passY_29
  · refine kw_icmp_ne (tgt := 9) C d_Md_passY_2 (by decide) ?_ ?_
    · refine kw_iload_n C d_Md_passY_9 rfl ?_
      refine kw_iconst (v := 4) C d_Md_passY_10 (by decide) ?_
      refine kw_icmp_ne (tgt := 18) C d_Md_passY_11 (by decide) ?_ ?_
      · refine kw_iload_n C d_Md_passY_18 rfl ?_
        refine kw_bipush (v := 6) C d_Md_passY_19 (by decide) ?_
        refine kw_icmp_ne (tgt := 28) C d_Md_passY_21 (by decide) ?_ ?_
        · refine kw_iconst (v := 0) C d_Md_passY_28 (by decide) ?_
          exact kw_wk (hk1 0 σ) ⟨Or.inl rfl, trivial⟩
        · refine kw_iconst (v := 1) C d_Md_passY_24 (by decide) ?_
          refine kw_goto (tgt := 29) C d_Md_passY_25 (by decide) ?_
          exact kw_wk (hk1 1 σ) ⟨Or.inl rfl, trivial⟩
      · refine kw_iconst (v := 2) C d_Md_passY_14 (by decide) ?_
        refine kw_goto (tgt := 29) C d_Md_passY_15 (by decide) ?_
        exact kw_wk (hk1 2 σ) ⟨Or.inl rfl, trivial⟩
    · refine kw_iconst (v := 4) C d_Md_passY_5 (by decide) ?_
      refine kw_goto (tgt := 29) C d_Md_passY_6 (by decide) ?_
      exact kw_wk (hk1 4 σ) ⟨Or.inl rfl, trivial⟩
/-! Md_stepX -/
def rm_Md_stepX : Room := { frames := 0, cells := 0, slots := 0, locals := 0 }
def F_Md_stepX (n : Nat) (a0 : Int32) (σ : Mm) : Option (Int32 × Mm) :=
kf_j (α := Int32) (fun x2 σ3 =>
some (x2, σ3)) fun k1 =>
if 2 ≤ a0 then (
if 4 ≤ a0 then (
if 6 ≤ a0 then (
k1 1 σ) else (
k1 2 σ)) else (
k1 4 σ)) else (
k1 8 σ)
theorem d_Md_stepX_0 : decode prog_14_method_20_code 0 = .ok (.iload_n 0, 1) := by decide +kernel
theorem d_Md_stepX_1 : decode prog_14_method_20_code 1 = .ok (.iconst 2, 1) := by decide +kernel
theorem d_Md_stepX_2 : decode prog_14_method_20_code 2 = .ok (.if_icmp .ge 8, 3) := by decide +kernel
theorem d_Md_stepX_5 : decode prog_14_method_20_code 5 = .ok (.bipush 8, 2) := by decide +kernel
theorem d_Md_stepX_7 : decode prog_14_method_20_code 7 = .ok (.goto 23, 3) := by decide +kernel
theorem d_Md_stepX_10 : decode prog_14_method_20_code 10 = .ok (.iload_n 0, 1) := by decide +kernel
theorem d_Md_stepX_11 : decode prog_14_method_20_code 11 = .ok (.iconst 4, 1) := by decide +kernel
theorem d_Md_stepX_12 : decode prog_14_method_20_code 12 = .ok (.if_icmp .ge 7, 3) := by decide +kernel
theorem d_Md_stepX_15 : decode prog_14_method_20_code 15 = .ok (.iconst 4, 1) := by decide +kernel
theorem d_Md_stepX_16 : decode prog_14_method_20_code 16 = .ok (.goto 14, 3) := by decide +kernel
theorem d_Md_stepX_19 : decode prog_14_method_20_code 19 = .ok (.iload_n 0, 1) := by decide +kernel
theorem d_Md_stepX_20 : decode prog_14_method_20_code 20 = .ok (.bipush 6, 2) := by decide +kernel
theorem d_Md_stepX_22 : decode prog_14_method_20_code 22 = .ok (.if_icmp .ge 7, 3) := by decide +kernel
theorem d_Md_stepX_25 : decode prog_14_method_20_code 25 = .ok (.iconst 2, 1) := by decide +kernel
theorem d_Md_stepX_26 : decode prog_14_method_20_code 26 = .ok (.goto 4, 3) := by decide +kernel
theorem d_Md_stepX_29 : decode prog_14_method_20_code 29 = .ok (.iconst 1, 1) := by decide +kernel
theorem d_Md_stepX_30 : decode prog_14_method_20_code 30 = .ok (.ireturn, 1) := by decide +kernel
set_option maxRecDepth 100000 in
set_option maxHeartbeats 4000000 in
theorem c_Md_stepX {l0 : Launch} (hl : l0.stackTraces = false) (n : Nat) (ids : List Nat)  (a0 : Int32) (σ : Mm) : kw_C l0 y_Md_stepX (Cond.code y_Md_stepX prog_14_method_20_code 1 (some .int) :: kw_Ts) rm_Md_stepX kw_oi ids [] [.int a0] σ (F_Md_stepX n a0 σ) := by
  refine kw_start (L0 := [some (.int a0)]) hl (by decide +kernel) (Nat.le_of_ble_eq_true rfl) rfl (fun Γ ad C Ce => ?_)
  unfold F_Md_stepX
  refine kw_iload_n C d_Md_stepX_0 rfl ?_
  refine kw_iconst (v := 2) C d_Md_stepX_1 (by decide) ?_
  refine kw_j (α := Int32) (pcj := 30) (Lj := fun x2 => [none]) (stj := fun x2 => [.int x2]) (fun x2 σ3 => ?_) (fun k1 hk1 => ?_)
  · exact kw_iret C Ce rfl (by simp) (fun _ _ => rfl) (Nat.le_of_ble_eq_true rfl) (Nat.le_of_ble_eq_true rfl) rfl d_Md_stepX_30
  · refine kw_icmp_ge (tgt := 10) C d_Md_stepX_2 (by decide) ?_ ?_
    · refine kw_iload_n C d_Md_stepX_10 rfl ?_
      refine kw_iconst (v := 4) C d_Md_stepX_11 (by decide) ?_
      refine kw_icmp_ge (tgt := 19) C d_Md_stepX_12 (by decide) ?_ ?_
      · refine kw_iload_n C d_Md_stepX_19 rfl ?_
        refine kw_bipush (v := 6) C d_Md_stepX_20 (by decide) ?_
        refine kw_icmp_ge (tgt := 29) C d_Md_stepX_22 (by decide) ?_ ?_
        · refine kw_iconst (v := 1) C d_Md_stepX_29 (by decide) ?_
          exact kw_wk (hk1 1 σ) ⟨Or.inl rfl, trivial⟩
        · refine kw_iconst (v := 2) C d_Md_stepX_25 (by decide) ?_
          refine kw_goto (tgt := 30) C d_Md_stepX_26 (by decide) ?_
          exact kw_wk (hk1 2 σ) ⟨Or.inl rfl, trivial⟩
      · refine kw_iconst (v := 4) C d_Md_stepX_15 (by decide) ?_
        refine kw_goto (tgt := 30) C d_Md_stepX_16 (by decide) ?_
        exact kw_wk (hk1 4 σ) ⟨Or.inl rfl, trivial⟩
    · refine kw_bipush (v := 8) C d_Md_stepX_5 (by decide) ?_
      refine kw_goto (tgt := 30) C d_Md_stepX_7 (by decide) ?_
      exact kw_wk (hk1 8 σ) ⟨Or.inl rfl, trivial⟩
/-! Md_stepY -/
def rm_Md_stepY : Room := { frames := 0, cells := 0, slots := 0, locals := 0 }
def F_Md_stepY (n : Nat) (a0 : Int32) (σ : Mm) : Option (Int32 × Mm) :=
kf_j (α := Int32) (fun x2 σ3 =>
some (x2, σ3)) fun k1 =>
if 3 ≤ a0 then (
if 5 ≤ a0 then (
if 7 ≤ a0 then (
k1 1 σ) else (
k1 2 σ)) else (
k1 4 σ)) else (
k1 8 σ)
theorem d_Md_stepY_0 : decode prog_14_method_21_code 0 = .ok (.iload_n 0, 1) := by decide +kernel
theorem d_Md_stepY_1 : decode prog_14_method_21_code 1 = .ok (.iconst 3, 1) := by decide +kernel
theorem d_Md_stepY_2 : decode prog_14_method_21_code 2 = .ok (.if_icmp .ge 8, 3) := by decide +kernel
theorem d_Md_stepY_5 : decode prog_14_method_21_code 5 = .ok (.bipush 8, 2) := by decide +kernel
theorem d_Md_stepY_7 : decode prog_14_method_21_code 7 = .ok (.goto 23, 3) := by decide +kernel
theorem d_Md_stepY_10 : decode prog_14_method_21_code 10 = .ok (.iload_n 0, 1) := by decide +kernel
theorem d_Md_stepY_11 : decode prog_14_method_21_code 11 = .ok (.iconst 5, 1) := by decide +kernel
theorem d_Md_stepY_12 : decode prog_14_method_21_code 12 = .ok (.if_icmp .ge 7, 3) := by decide +kernel
theorem d_Md_stepY_15 : decode prog_14_method_21_code 15 = .ok (.iconst 4, 1) := by decide +kernel
theorem d_Md_stepY_16 : decode prog_14_method_21_code 16 = .ok (.goto 14, 3) := by decide +kernel
theorem d_Md_stepY_19 : decode prog_14_method_21_code 19 = .ok (.iload_n 0, 1) := by decide +kernel
theorem d_Md_stepY_20 : decode prog_14_method_21_code 20 = .ok (.bipush 7, 2) := by decide +kernel
theorem d_Md_stepY_22 : decode prog_14_method_21_code 22 = .ok (.if_icmp .ge 7, 3) := by decide +kernel
theorem d_Md_stepY_25 : decode prog_14_method_21_code 25 = .ok (.iconst 2, 1) := by decide +kernel
theorem d_Md_stepY_26 : decode prog_14_method_21_code 26 = .ok (.goto 4, 3) := by decide +kernel
theorem d_Md_stepY_29 : decode prog_14_method_21_code 29 = .ok (.iconst 1, 1) := by decide +kernel
theorem d_Md_stepY_30 : decode prog_14_method_21_code 30 = .ok (.ireturn, 1) := by decide +kernel
set_option maxRecDepth 100000 in
set_option maxHeartbeats 4000000 in
theorem c_Md_stepY {l0 : Launch} (hl : l0.stackTraces = false) (n : Nat) (ids : List Nat)  (a0 : Int32) (σ : Mm) : kw_C l0 y_Md_stepY (Cond.code y_Md_stepY prog_14_method_21_code 1 (some .int) :: kw_Ts) rm_Md_stepY kw_oi ids [] [.int a0] σ (F_Md_stepY n a0 σ) := by
  refine kw_start (L0 := [some (.int a0)]) hl (by decide +kernel) (Nat.le_of_ble_eq_true rfl) rfl (fun Γ ad C Ce => ?_)
  unfold F_Md_stepY
  refine kw_iload_n C d_Md_stepY_0 rfl ?_
  refine kw_iconst (v := 3) C d_Md_stepY_1 (by decide) ?_
  refine kw_j (α := Int32) (pcj := 30) (Lj := fun x2 => [none]) (stj := fun x2 => [.int x2]) (fun x2 σ3 => ?_) (fun k1 hk1 => ?_)
  · exact kw_iret C Ce rfl (by simp) (fun _ _ => rfl) (Nat.le_of_ble_eq_true rfl) (Nat.le_of_ble_eq_true rfl) rfl d_Md_stepY_30
  · refine kw_icmp_ge (tgt := 10) C d_Md_stepY_2 (by decide) ?_ ?_
    · refine kw_iload_n C d_Md_stepY_10 rfl ?_
      refine kw_iconst (v := 5) C d_Md_stepY_11 (by decide) ?_
      refine kw_icmp_ge (tgt := 19) C d_Md_stepY_12 (by decide) ?_ ?_
      · refine kw_iload_n C d_Md_stepY_19 rfl ?_
        refine kw_bipush (v := 7) C d_Md_stepY_20 (by decide) ?_
        refine kw_icmp_ge (tgt := 29) C d_Md_stepY_22 (by decide) ?_ ?_
        · refine kw_iconst (v := 1) C d_Md_stepY_29 (by decide) ?_
          exact kw_wk (hk1 1 σ) ⟨Or.inl rfl, trivial⟩
        · refine kw_iconst (v := 2) C d_Md_stepY_25 (by decide) ?_
          refine kw_goto (tgt := 30) C d_Md_stepY_26 (by decide) ?_
          exact kw_wk (hk1 2 σ) ⟨Or.inl rfl, trivial⟩
      · refine kw_iconst (v := 4) C d_Md_stepY_15 (by decide) ?_
        refine kw_goto (tgt := 30) C d_Md_stepY_16 (by decide) ?_
        exact kw_wk (hk1 4 σ) ⟨Or.inl rfl, trivial⟩
    · refine kw_bipush (v := 8) C d_Md_stepY_5 (by decide) ?_
      refine kw_goto (tgt := 30) C d_Md_stepY_7 (by decide) ?_
      exact kw_wk (hk1 8 σ) ⟨Or.inl rfl, trivial⟩
/-! Md_points -/
def rm_Md_points : Room := { frames := 0, cells := 0, slots := 0, locals := 0 }
def F_Md_points (n : Nat) (a0 : Int32) (a1 : Int32) (a2 : Int32) (σ : Mm) : Option (Int32 × Mm) :=
kf_j (α := Int32) (fun x2 σ3 =>
some (x2, σ3)) fun k1 =>
if a1 < a0 then (
kf_nz a2 <|
k1 ((((a0 - a1) + a2) - 1) / a2) σ) else (
k1 0 σ)
theorem d_Md_points_0 : decode prog_14_method_22_code 0 = .ok (.iload_n 0, 1) := by decide +kernel
theorem d_Md_points_1 : decode prog_14_method_22_code 1 = .ok (.iload_n 1, 1) := by decide +kernel
theorem d_Md_points_2 : decode prog_14_method_22_code 2 = .ok (.if_icmp .gt 7, 3) := by decide +kernel
theorem d_Md_points_5 : decode prog_14_method_22_code 5 = .ok (.iconst 0, 1) := by decide +kernel
theorem d_Md_points_6 : decode prog_14_method_22_code 6 = .ok (.goto 12, 3) := by decide +kernel
theorem d_Md_points_9 : decode prog_14_method_22_code 9 = .ok (.iload_n 0, 1) := by decide +kernel
theorem d_Md_points_10 : decode prog_14_method_22_code 10 = .ok (.iload_n 1, 1) := by decide +kernel
theorem d_Md_points_11 : decode prog_14_method_22_code 11 = .ok (.isub, 1) := by decide +kernel
theorem d_Md_points_12 : decode prog_14_method_22_code 12 = .ok (.iload_n 2, 1) := by decide +kernel
theorem d_Md_points_13 : decode prog_14_method_22_code 13 = .ok (.iadd, 1) := by decide +kernel
theorem d_Md_points_14 : decode prog_14_method_22_code 14 = .ok (.iconst 1, 1) := by decide +kernel
theorem d_Md_points_15 : decode prog_14_method_22_code 15 = .ok (.isub, 1) := by decide +kernel
theorem d_Md_points_16 : decode prog_14_method_22_code 16 = .ok (.iload_n 2, 1) := by decide +kernel
theorem d_Md_points_17 : decode prog_14_method_22_code 17 = .ok (.idiv, 1) := by decide +kernel
theorem d_Md_points_18 : decode prog_14_method_22_code 18 = .ok (.ireturn, 1) := by decide +kernel
set_option maxRecDepth 100000 in
set_option maxHeartbeats 4000000 in
theorem c_Md_points {l0 : Launch} (hl : l0.stackTraces = false) (n : Nat) (ids : List Nat)  (a0 : Int32) (a1 : Int32) (a2 : Int32) (σ : Mm) : kw_C l0 y_Md_points (Cond.code y_Md_points prog_14_method_22_code 3 (some .int) :: kw_Ts) rm_Md_points kw_oi ids [] [.int a0, .int a1, .int a2] σ (F_Md_points n a0 a1 a2 σ) := by
  refine kw_start (L0 := [some (.int a0), some (.int a1), some (.int a2)]) hl (by decide +kernel) (Nat.le_of_ble_eq_true rfl) rfl (fun Γ ad C Ce => ?_)
  unfold F_Md_points
  refine kw_iload_n C d_Md_points_0 rfl ?_
  refine kw_iload_n C d_Md_points_1 rfl ?_
  refine kw_j (α := Int32) (pcj := 18) (Lj := fun x2 => [none, none, none]) (stj := fun x2 => [.int x2]) (fun x2 σ3 => ?_) (fun k1 hk1 => ?_)
  · exact kw_iret C Ce rfl (by simp) (fun _ _ => rfl) (Nat.le_of_ble_eq_true rfl) (Nat.le_of_ble_eq_true rfl) rfl d_Md_points_18
  · refine kw_icmp_gt (tgt := 9) C d_Md_points_2 (by decide) ?_ ?_
    · refine kw_iload_n C d_Md_points_9 rfl ?_
      refine kw_iload_n C d_Md_points_10 rfl ?_
      refine kw_isub C d_Md_points_11 ?_
      refine kw_iload_n C d_Md_points_12 rfl ?_
      refine kw_iadd C d_Md_points_13 ?_
      refine kw_iconst (v := 1) C d_Md_points_14 (by decide) ?_
      refine kw_isub C d_Md_points_15 ?_
      refine kw_iload_n C d_Md_points_16 rfl ?_
      refine kw_idiv C d_Md_points_17 ?_
      exact kw_wk (hk1 ((((a0 - a1) + a2) - 1) / a2) σ) ⟨Or.inl rfl, Or.inl rfl, Or.inl rfl, trivial⟩
    · refine kw_iconst (v := 0) C d_Md_points_5 (by decide) ?_
      refine kw_goto (tgt := 18) C d_Md_points_6 (by decide) ?_
      exact kw_wk (hk1 0 σ) ⟨Or.inl rfl, Or.inl rfl, Or.inl rfl, trivial⟩
/-! Md_rows -/
def rm_Md_rows : Room := { frames := 1, cells := 0, slots := 0, locals := 22 }
def F_Md_rows (n : Nat) (t : Nat) (a0 : Int32) (a1 : Int32) (a2 : Int32) (a3 : Int32) (a4 : Int32) (σ : Mm) : Option (Mm) :=
kf_let (pS σ (64 * t + 38) 0) fun σ1 =>
kf_let (pS σ1 (64 * t + 39) 0) fun σ2 =>
kf_j (α := Int32) (fun x4 σ5 =>
kf_l (α := Int32) n (fun k6 x7 σ8 =>
kf_j (α := Int32 × Int32) (fun x10 σ11 =>
if x10.2 ≤ x10.1 then (
some σ11) else (
kf_c2 (F_Md_passX n x7 σ11) fun x12 σ13 =>
kf_c2 (F_Md_stepX n x7 σ13) fun x14 σ15 =>
kf_c2 (F_Md_points n a0 x12 x14 σ15) fun x16 σ17 =>
kf_j (α := Int32) (fun x19 σ20 =>
kf_l (α := Int32) n (fun k21 x22 σ23 =>
if x19 ≤ x22 then (
kf_let (x7 + Int32.ofInt 1) fun x24 =>
k6 x24 σ23) else (
Option.bind (gR σ23 (64 * t + 33)) fun o25 =>
kf_in (gS σ23 (64 * t + 38)) (mm_kd o25).2.2 <| kf_let (pB σ23 o25 (gS σ23 (64 * t + 38)).toNatClampNeg x7) fun σ26 =>
Option.bind (gR σ26 (64 * t + 34)) fun o27 =>
kf_in (gS σ26 (64 * t + 38)) (mm_kd o27).2.2 <| kf_let (pB σ26 o27 (gS σ26 (64 * t + 38)).toNatClampNeg x22) fun σ28 =>
Option.bind (gR σ28 (64 * t + 35)) fun o29 =>
kf_in (gS σ28 (64 * t + 38)) (mm_kd o29).2.2 <| kf_let (pB σ28 o29 (gS σ28 (64 * t + 38)).toNatClampNeg (gS σ28 (64 * t + 39))) fun σ30 =>
Option.bind (gR σ30 (64 * t + 37)) fun o31 =>
kf_in (gS σ30 (64 * t + 38)) (mm_kd o31).2.2 <| kf_let (pB σ30 o31 (gS σ30 (64 * t + 38)).toNatClampNeg x16) fun σ32 =>
Option.bind (gR σ32 (64 * t + 36)) fun o33 =>
kf_c2 (F_Md_channels n a2 σ32) fun x34 σ35 =>
kf_nz 8 <|
kf_in (gS σ32 (64 * t + 38)) (mm_kd o33).2.2 <| kf_let (pB σ35 o33 (gS σ32 (64 * t + 38)).toNatClampNeg ((((x16 * x34) * a3) + 7) / 8)) fun σ36 =>
Option.bind (gR σ36 (64 * t + 36)) fun o37 =>
kf_let (gS σ36 (64 * t + 38) : Int32) fun x38 =>
kf_in x38 (mm_kd o37).2.2 <|
kf_let (pS σ36 (64 * t + 39) ((gS σ36 (64 * t + 39)) + ((1 : Int32) + (gB σ36 o37 x38.toNatClampNeg)))) fun σ39 =>
kf_let (pS σ39 (64 * t + 38) ((gS σ39 (64 * t + 38)) + 1)) fun σ40 =>
kf_let (x22 + Int32.ofInt 1) fun x41 =>
k21 x41 σ40)) 0 σ20) fun k18 =>
if x16 = 0 then (
k18 0 σ17) else (
kf_c2 (F_Md_passY n x7 σ17) fun x42 σ43 =>
kf_c2 (F_Md_stepY n x7 σ43) fun x44 σ45 =>
kf_c2 (F_Md_points n a1 x42 x44 σ45) fun x46 σ47 =>
k18 x46 σ47))) fun k9 =>
if a4 = 0 then (
k9 (x7, 8) σ8) else (
k9 (x7, 7) σ8)) x4 σ5) fun k3 =>
if a4 = 0 then (
k3 7 σ2) else (
k3 0 σ2)
theorem d_Md_rows_0 : decode prog_14_method_23_code 0 = .ok (.aload_n 0, 1) := by decide +kernel
theorem d_Md_rows_1 : decode prog_14_method_23_code 1 = .ok (.iconst 0, 1) := by decide +kernel
theorem d_Md_rows_2 : decode prog_14_method_23_code 2 = .ok (.putfield 97, 3) := by decide +kernel
theorem d_Md_rows_5 : decode prog_14_method_23_code 5 = .ok (.aload_n 0, 1) := by decide +kernel
theorem d_Md_rows_6 : decode prog_14_method_23_code 6 = .ok (.iconst 0, 1) := by decide +kernel
theorem d_Md_rows_7 : decode prog_14_method_23_code 7 = .ok (.putfield 100, 3) := by decide +kernel
theorem d_Md_rows_10 : decode prog_14_method_23_code 10 = .ok (.iload 5, 2) := by decide +kernel
theorem d_Md_rows_12 : decode prog_14_method_23_code 12 = .ok (.ifCond .eq 7, 3) := by decide +kernel
theorem d_Md_rows_15 : decode prog_14_method_23_code 15 = .ok (.iconst 0, 1) := by decide +kernel
theorem d_Md_rows_16 : decode prog_14_method_23_code 16 = .ok (.goto 5, 3) := by decide +kernel
theorem d_Md_rows_19 : decode prog_14_method_23_code 19 = .ok (.bipush 7, 2) := by decide +kernel
theorem d_Md_rows_21 : decode prog_14_method_23_code 21 = .ok (.istore 6, 2) := by decide +kernel
theorem d_Md_rows_23 : decode prog_14_method_23_code 23 = .ok (.iload 6, 2) := by decide +kernel
theorem d_Md_rows_25 : decode prog_14_method_23_code 25 = .ok (.iload 5, 2) := by decide +kernel
theorem d_Md_rows_27 : decode prog_14_method_23_code 27 = .ok (.ifCond .eq 8, 3) := by decide +kernel
theorem d_Md_rows_30 : decode prog_14_method_23_code 30 = .ok (.bipush 7, 2) := by decide +kernel
theorem d_Md_rows_32 : decode prog_14_method_23_code 32 = .ok (.goto 5, 3) := by decide +kernel
theorem d_Md_rows_35 : decode prog_14_method_23_code 35 = .ok (.bipush 8, 2) := by decide +kernel
theorem d_Md_rows_37 : decode prog_14_method_23_code 37 = .ok (.if_icmp .ge 167, 3) := by decide +kernel
theorem d_Md_rows_40 : decode prog_14_method_23_code 40 = .ok (.iload_n 1, 1) := by decide +kernel
theorem d_Md_rows_41 : decode prog_14_method_23_code 41 = .ok (.iload 6, 2) := by decide +kernel
theorem d_Md_rows_43 : decode prog_14_method_23_code 43 = .ok (.invokestatic 103, 3) := by decide +kernel
theorem d_Md_rows_46 : decode prog_14_method_23_code 46 = .ok (.iload 6, 2) := by decide +kernel
theorem d_Md_rows_48 : decode prog_14_method_23_code 48 = .ok (.invokestatic 106, 3) := by decide +kernel
theorem d_Md_rows_51 : decode prog_14_method_23_code 51 = .ok (.invokestatic 109, 3) := by decide +kernel
theorem d_Md_rows_54 : decode prog_14_method_23_code 54 = .ok (.istore 7, 2) := by decide +kernel
theorem d_Md_rows_56 : decode prog_14_method_23_code 56 = .ok (.iload 7, 2) := by decide +kernel
theorem d_Md_rows_58 : decode prog_14_method_23_code 58 = .ok (.ifCond .ne 7, 3) := by decide +kernel
theorem d_Md_rows_61 : decode prog_14_method_23_code 61 = .ok (.iconst 0, 1) := by decide +kernel
theorem d_Md_rows_62 : decode prog_14_method_23_code 62 = .ok (.goto 17, 3) := by decide +kernel
theorem d_Md_rows_65 : decode prog_14_method_23_code 65 = .ok (.iload_n 2, 1) := by decide +kernel
theorem d_Md_rows_66 : decode prog_14_method_23_code 66 = .ok (.iload 6, 2) := by decide +kernel
theorem d_Md_rows_68 : decode prog_14_method_23_code 68 = .ok (.invokestatic 113, 3) := by decide +kernel
theorem d_Md_rows_71 : decode prog_14_method_23_code 71 = .ok (.iload 6, 2) := by decide +kernel
theorem d_Md_rows_73 : decode prog_14_method_23_code 73 = .ok (.invokestatic 116, 3) := by decide +kernel
theorem d_Md_rows_76 : decode prog_14_method_23_code 76 = .ok (.invokestatic 109, 3) := by decide +kernel
theorem d_Md_rows_79 : decode prog_14_method_23_code 79 = .ok (.istore 8, 2) := by decide +kernel
theorem d_Md_rows_81 : decode prog_14_method_23_code 81 = .ok (.iconst 0, 1) := by decide +kernel
theorem d_Md_rows_82 : decode prog_14_method_23_code 82 = .ok (.istore 9, 2) := by decide +kernel
theorem d_Md_rows_84 : decode prog_14_method_23_code 84 = .ok (.iload 9, 2) := by decide +kernel
theorem d_Md_rows_86 : decode prog_14_method_23_code 86 = .ok (.iload 8, 2) := by decide +kernel
theorem d_Md_rows_88 : decode prog_14_method_23_code 88 = .ok (.if_icmp .ge 110, 3) := by decide +kernel
theorem d_Md_rows_91 : decode prog_14_method_23_code 91 = .ok (.aload_n 0, 1) := by decide +kernel
theorem d_Md_rows_92 : decode prog_14_method_23_code 92 = .ok (.getfield 43, 3) := by decide +kernel
theorem d_Md_rows_95 : decode prog_14_method_23_code 95 = .ok (.aload_n 0, 1) := by decide +kernel
theorem d_Md_rows_96 : decode prog_14_method_23_code 96 = .ok (.getfield 97, 3) := by decide +kernel
theorem d_Md_rows_99 : decode prog_14_method_23_code 99 = .ok (.iload 6, 2) := by decide +kernel
theorem d_Md_rows_101 : decode prog_14_method_23_code 101 = .ok (.iastore, 1) := by decide +kernel
theorem d_Md_rows_102 : decode prog_14_method_23_code 102 = .ok (.aload_n 0, 1) := by decide +kernel
theorem d_Md_rows_103 : decode prog_14_method_23_code 103 = .ok (.getfield 46, 3) := by decide +kernel
theorem d_Md_rows_106 : decode prog_14_method_23_code 106 = .ok (.aload_n 0, 1) := by decide +kernel
theorem d_Md_rows_107 : decode prog_14_method_23_code 107 = .ok (.getfield 97, 3) := by decide +kernel
theorem d_Md_rows_110 : decode prog_14_method_23_code 110 = .ok (.iload 9, 2) := by decide +kernel
theorem d_Md_rows_112 : decode prog_14_method_23_code 112 = .ok (.iastore, 1) := by decide +kernel
theorem d_Md_rows_113 : decode prog_14_method_23_code 113 = .ok (.aload_n 0, 1) := by decide +kernel
theorem d_Md_rows_114 : decode prog_14_method_23_code 114 = .ok (.getfield 49, 3) := by decide +kernel
theorem d_Md_rows_117 : decode prog_14_method_23_code 117 = .ok (.aload_n 0, 1) := by decide +kernel
theorem d_Md_rows_118 : decode prog_14_method_23_code 118 = .ok (.getfield 97, 3) := by decide +kernel
theorem d_Md_rows_121 : decode prog_14_method_23_code 121 = .ok (.aload_n 0, 1) := by decide +kernel
theorem d_Md_rows_122 : decode prog_14_method_23_code 122 = .ok (.getfield 100, 3) := by decide +kernel
theorem d_Md_rows_125 : decode prog_14_method_23_code 125 = .ok (.iastore, 1) := by decide +kernel
theorem d_Md_rows_126 : decode prog_14_method_23_code 126 = .ok (.aload_n 0, 1) := by decide +kernel
theorem d_Md_rows_127 : decode prog_14_method_23_code 127 = .ok (.getfield 55, 3) := by decide +kernel
theorem d_Md_rows_130 : decode prog_14_method_23_code 130 = .ok (.aload_n 0, 1) := by decide +kernel
theorem d_Md_rows_131 : decode prog_14_method_23_code 131 = .ok (.getfield 97, 3) := by decide +kernel
theorem d_Md_rows_134 : decode prog_14_method_23_code 134 = .ok (.iload 7, 2) := by decide +kernel
theorem d_Md_rows_136 : decode prog_14_method_23_code 136 = .ok (.iastore, 1) := by decide +kernel
theorem d_Md_rows_137 : decode prog_14_method_23_code 137 = .ok (.aload_n 0, 1) := by decide +kernel
theorem d_Md_rows_138 : decode prog_14_method_23_code 138 = .ok (.getfield 52, 3) := by decide +kernel
theorem d_Md_rows_141 : decode prog_14_method_23_code 141 = .ok (.aload_n 0, 1) := by decide +kernel
theorem d_Md_rows_142 : decode prog_14_method_23_code 142 = .ok (.getfield 97, 3) := by decide +kernel
theorem d_Md_rows_145 : decode prog_14_method_23_code 145 = .ok (.iload 7, 2) := by decide +kernel
theorem d_Md_rows_147 : decode prog_14_method_23_code 147 = .ok (.iload_n 3, 1) := by decide +kernel
theorem d_Md_rows_148 : decode prog_14_method_23_code 148 = .ok (.invokestatic 119, 3) := by decide +kernel
theorem d_Md_rows_151 : decode prog_14_method_23_code 151 = .ok (.imul, 1) := by decide +kernel
theorem d_Md_rows_152 : decode prog_14_method_23_code 152 = .ok (.iload 4, 2) := by decide +kernel
theorem d_Md_rows_154 : decode prog_14_method_23_code 154 = .ok (.imul, 1) := by decide +kernel
theorem d_Md_rows_155 : decode prog_14_method_23_code 155 = .ok (.bipush 7, 2) := by decide +kernel
theorem d_Md_rows_157 : decode prog_14_method_23_code 157 = .ok (.iadd, 1) := by decide +kernel
theorem d_Md_rows_158 : decode prog_14_method_23_code 158 = .ok (.bipush 8, 2) := by decide +kernel
theorem d_Md_rows_160 : decode prog_14_method_23_code 160 = .ok (.idiv, 1) := by decide +kernel
theorem d_Md_rows_161 : decode prog_14_method_23_code 161 = .ok (.iastore, 1) := by decide +kernel
theorem d_Md_rows_162 : decode prog_14_method_23_code 162 = .ok (.aload_n 0, 1) := by decide +kernel
theorem d_Md_rows_163 : decode prog_14_method_23_code 163 = .ok (.dup, 1) := by decide +kernel
theorem d_Md_rows_164 : decode prog_14_method_23_code 164 = .ok (.getfield 100, 3) := by decide +kernel
theorem d_Md_rows_167 : decode prog_14_method_23_code 167 = .ok (.iconst 1, 1) := by decide +kernel
theorem d_Md_rows_168 : decode prog_14_method_23_code 168 = .ok (.aload_n 0, 1) := by decide +kernel
theorem d_Md_rows_169 : decode prog_14_method_23_code 169 = .ok (.getfield 52, 3) := by decide +kernel
theorem d_Md_rows_172 : decode prog_14_method_23_code 172 = .ok (.aload_n 0, 1) := by decide +kernel
theorem d_Md_rows_173 : decode prog_14_method_23_code 173 = .ok (.getfield 97, 3) := by decide +kernel
theorem d_Md_rows_176 : decode prog_14_method_23_code 176 = .ok (.iaload, 1) := by decide +kernel
theorem d_Md_rows_177 : decode prog_14_method_23_code 177 = .ok (.iadd, 1) := by decide +kernel
theorem d_Md_rows_178 : decode prog_14_method_23_code 178 = .ok (.iadd, 1) := by decide +kernel
theorem d_Md_rows_179 : decode prog_14_method_23_code 179 = .ok (.putfield 100, 3) := by decide +kernel
theorem d_Md_rows_182 : decode prog_14_method_23_code 182 = .ok (.aload_n 0, 1) := by decide +kernel
theorem d_Md_rows_183 : decode prog_14_method_23_code 183 = .ok (.dup, 1) := by decide +kernel
theorem d_Md_rows_184 : decode prog_14_method_23_code 184 = .ok (.getfield 97, 3) := by decide +kernel
theorem d_Md_rows_187 : decode prog_14_method_23_code 187 = .ok (.iconst 1, 1) := by decide +kernel
theorem d_Md_rows_188 : decode prog_14_method_23_code 188 = .ok (.iadd, 1) := by decide +kernel
theorem d_Md_rows_189 : decode prog_14_method_23_code 189 = .ok (.putfield 97, 3) := by decide +kernel
theorem d_Md_rows_192 : decode prog_14_method_23_code 192 = .ok (.iinc 9 1, 3) := by decide +kernel
theorem d_Md_rows_195 : decode prog_14_method_23_code 195 = .ok (.goto (-111), 3) := by decide +kernel
theorem d_Md_rows_198 : decode prog_14_method_23_code 198 = .ok (.iinc 6 1, 3) := by decide +kernel
theorem d_Md_rows_201 : decode prog_14_method_23_code 201 = .ok (.goto (-178), 3) := by decide +kernel
theorem d_Md_rows_204 : decode prog_14_method_23_code 204 = .ok (.return_, 1) := by decide +kernel
set_option maxRecDepth 100000 in
set_option maxHeartbeats 4000000 in
theorem c_Md_rows {l0 : Launch} (hl : l0.stackTraces = false) (n : Nat) (ids : List Nat) {t : Nat} (ht : mm_ok ids t 1 12) (a0 : Int32) (a1 : Int32) (a2 : Int32) (a3 : Int32) (a4 : Int32) (σ : Mm) : kw_C l0 y_Md_rows (Cond.code y_Md_rows prog_14_method_23_code 10 none :: kw_Ts) rm_Md_rows kw_ov ids [] [.ref t, .int a0, .int a1, .int a2, .int a3, .int a4] σ (F_Md_rows n t a0 a1 a2 a3 a4 σ) := by
  refine kw_start (L0 := [some (.ref t), some (.int a0), some (.int a1), some (.int a2), some (.int a3), some (.int a4), none, none, none, none]) hl (by decide +kernel) (Nat.le_of_ble_eq_true rfl) rfl (fun Γ ad C Ce => ?_)
  unfold F_Md_rows
  refine kw_aload_n C d_Md_rows_0 rfl ?_
  refine kw_iconst (v := 0) C d_Md_rows_1 (by decide) ?_
  refine kw_putI C fi_Md_97 rfl ht d_Md_rows_2 (fun σ1 => ?_)
  refine kw_aload_n C d_Md_rows_5 rfl ?_
  refine kw_iconst (v := 0) C d_Md_rows_6 (by decide) ?_
  refine kw_putI C fi_Md_100 rfl ht d_Md_rows_7 (fun σ2 => ?_)
  refine kw_iload C d_Md_rows_10 rfl ?_
  refine kw_j (α := Int32) (pcj := 21) (Lj := fun x4 => [some (.ref t), some (.int a0), some (.int a1), some (.int a2), some (.int a3), some (.int a4), none, none, none, none]) (stj := fun x4 => [.int x4]) (fun x4 σ5 => ?_) (fun k3 hk3 => ?_)
  · refine kw_istore (L' := [some (.ref t), some (.int a0), some (.int a1), some (.int a2), some (.int a3), some (.int a4), some (.int x4), none, none, none]) C d_Md_rows_21 (by decide) rfl ?_
    refine kw_wk (kw_l (α := Int32) (pc := 23) (Lj := fun x7 => [some (.ref t), some (.int a0), some (.int a1), some (.int a2), some (.int a3), some (.int a4), some (.int x7), none, none, none]) (stj := fun x7 => []) (fun k6 hk6 x7 σ8 => ?_) n x4 σ5) ⟨Or.inr rfl, Or.inr rfl, Or.inr rfl, Or.inr rfl, Or.inr rfl, Or.inr rfl, Or.inr rfl, Or.inl rfl, Or.inl rfl, Or.inl rfl, trivial⟩
    refine kw_iload C d_Md_rows_23 rfl ?_
    refine kw_iload C d_Md_rows_25 rfl ?_
    refine kw_j (α := Int32 × Int32) (pcj := 37) (Lj := fun x10 => [some (.ref t), some (.int a0), some (.int a1), some (.int a2), some (.int a3), some (.int a4), some (.int x7), none, none, none]) (stj := fun x10 => [.int x10.2, .int x10.1]) (fun x10 σ11 => ?_) (fun k9 hk9 => ?_)
    · refine kw_icmp_ge (tgt := 204) C d_Md_rows_37 (by decide) ?_ ?_
      · exact kw_vret C Ce rfl (by simp) (fun _ _ => rfl) (Nat.le_of_ble_eq_true rfl) (Nat.le_of_ble_eq_true rfl) rfl d_Md_rows_204
      · refine kw_iload_n C d_Md_rows_40 rfl ?_
        refine kw_iload C d_Md_rows_41 rfl ?_
        refine kw_callSi (cl' := 0) (sl' := 0) (As := [.int x7]) C (c_Md_passX hl n ids  x7 σ11) mi_Md_103 s_Md_passX ⟨Nat.le_of_ble_eq_true rfl, Nat.le_of_ble_eq_true rfl⟩ (Nat.le_of_ble_eq_true rfl) ⟨Nat.le_of_ble_eq_true rfl, Nat.le_of_ble_eq_true rfl⟩ ⟨rfl, rfl⟩ rfl d_Md_rows_43 (fun x12 σ13 => ?_)
        refine kw_iload C d_Md_rows_46 rfl ?_
        refine kw_callSi (cl' := 0) (sl' := 0) (As := [.int x7]) C (c_Md_stepX hl n ids  x7 σ13) mi_Md_106 s_Md_stepX ⟨Nat.le_of_ble_eq_true rfl, Nat.le_of_ble_eq_true rfl⟩ (Nat.le_of_ble_eq_true rfl) ⟨Nat.le_of_ble_eq_true rfl, Nat.le_of_ble_eq_true rfl⟩ ⟨rfl, rfl⟩ rfl d_Md_rows_48 (fun x14 σ15 => ?_)
        refine kw_callSi (cl' := 0) (sl' := 0) (As := [.int a0, .int x12, .int x14]) C (c_Md_points hl n ids  a0 x12 x14 σ15) mi_Md_109 s_Md_points ⟨Nat.le_of_ble_eq_true rfl, Nat.le_of_ble_eq_true rfl⟩ (Nat.le_of_ble_eq_true rfl) ⟨Nat.le_of_ble_eq_true rfl, Nat.le_of_ble_eq_true rfl⟩ ⟨rfl, rfl⟩ rfl d_Md_rows_51 (fun x16 σ17 => ?_)
        refine kw_istore (L' := [some (.ref t), some (.int a0), some (.int a1), some (.int a2), some (.int a3), some (.int a4), some (.int x7), some (.int x16), none, none]) C d_Md_rows_54 (by decide) rfl ?_
        refine kw_iload C d_Md_rows_56 rfl ?_
        refine kw_j (α := Int32) (pcj := 79) (Lj := fun x19 => [some (.ref t), some (.int a0), some (.int a1), some (.int a2), some (.int a3), some (.int a4), some (.int x7), some (.int x16), none, none]) (stj := fun x19 => [.int x19]) (fun x19 σ20 => ?_) (fun k18 hk18 => ?_)
        · refine kw_istore (L' := [some (.ref t), some (.int a0), some (.int a1), some (.int a2), some (.int a3), some (.int a4), some (.int x7), some (.int x16), some (.int x19), none]) C d_Md_rows_79 (by decide) rfl ?_
          refine kw_iconst (v := 0) C d_Md_rows_81 (by decide) ?_
          refine kw_istore (L' := [some (.ref t), some (.int a0), some (.int a1), some (.int a2), some (.int a3), some (.int a4), some (.int x7), some (.int x16), some (.int x19), some (.int 0)]) C d_Md_rows_82 (by decide) rfl ?_
          refine kw_wk (kw_l (α := Int32) (pc := 84) (Lj := fun x22 => [some (.ref t), some (.int a0), some (.int a1), some (.int a2), some (.int a3), some (.int a4), some (.int x7), some (.int x16), some (.int x19), some (.int x22)]) (stj := fun x22 => []) (fun k21 hk21 x22 σ23 => ?_) n 0 σ20) ⟨Or.inr rfl, Or.inr rfl, Or.inr rfl, Or.inr rfl, Or.inr rfl, Or.inr rfl, Or.inr rfl, Or.inr rfl, Or.inr rfl, Or.inr rfl, trivial⟩
          refine kw_iload C d_Md_rows_84 rfl ?_
          refine kw_iload C d_Md_rows_86 rfl ?_
          refine kw_icmp_ge (tgt := 198) C d_Md_rows_88 (by decide) ?_ ?_
          · refine kw_iincL (L2 := fun x24 => [some (.ref t), some (.int a0), some (.int a1), some (.int a2), some (.int a3), some (.int a4), some (.int x24), some (.int x16), some (.int x19), some (.int x22)]) C d_Md_rows_198 (by decide) rfl (fun _ => rfl) (fun x24 => ?_)
            refine kw_goto (tgt := 23) C d_Md_rows_201 (by decide) ?_
            exact kw_wk (hk6 x24 σ23) ⟨Or.inr rfl, Or.inr rfl, Or.inr rfl, Or.inr rfl, Or.inr rfl, Or.inr rfl, Or.inr rfl, Or.inl rfl, Or.inl rfl, Or.inl rfl, trivial⟩
          · refine kw_aload_n C d_Md_rows_91 rfl ?_
            refine kw_getR C fi_Md_43 rfl rfl ht d_Md_rows_92 (fun o25 ho25 => ?_)
            refine kw_aload_n C d_Md_rows_95 rfl ?_
            refine kw_getI C fi_Md_97 (Or.inl rfl) ht d_Md_rows_96 ?_
            refine kw_iload C d_Md_rows_99 rfl ?_
            refine kw_iast C ho25 d_Md_rows_101 (fun σ26 => ?_)
            refine kw_aload_n C d_Md_rows_102 rfl ?_
            refine kw_getR C fi_Md_46 rfl rfl ht d_Md_rows_103 (fun o27 ho27 => ?_)
            refine kw_aload_n C d_Md_rows_106 rfl ?_
            refine kw_getI C fi_Md_97 (Or.inl rfl) ht d_Md_rows_107 ?_
            refine kw_iload C d_Md_rows_110 rfl ?_
            refine kw_iast C ho27 d_Md_rows_112 (fun σ28 => ?_)
            refine kw_aload_n C d_Md_rows_113 rfl ?_
            refine kw_getR C fi_Md_49 rfl rfl ht d_Md_rows_114 (fun o29 ho29 => ?_)
            refine kw_aload_n C d_Md_rows_117 rfl ?_
            refine kw_getI C fi_Md_97 (Or.inl rfl) ht d_Md_rows_118 ?_
            refine kw_aload_n C d_Md_rows_121 rfl ?_
            refine kw_getI C fi_Md_100 (Or.inl rfl) ht d_Md_rows_122 ?_
            refine kw_iast C ho29 d_Md_rows_125 (fun σ30 => ?_)
            refine kw_aload_n C d_Md_rows_126 rfl ?_
            refine kw_getR C fi_Md_55 rfl rfl ht d_Md_rows_127 (fun o31 ho31 => ?_)
            refine kw_aload_n C d_Md_rows_130 rfl ?_
            refine kw_getI C fi_Md_97 (Or.inl rfl) ht d_Md_rows_131 ?_
            refine kw_iload C d_Md_rows_134 rfl ?_
            refine kw_iast C ho31 d_Md_rows_136 (fun σ32 => ?_)
            refine kw_aload_n C d_Md_rows_137 rfl ?_
            refine kw_getR C fi_Md_52 rfl rfl ht d_Md_rows_138 (fun o33 ho33 => ?_)
            refine kw_aload_n C d_Md_rows_141 rfl ?_
            refine kw_getI C fi_Md_97 (Or.inl rfl) ht d_Md_rows_142 ?_
            refine kw_iload C d_Md_rows_145 rfl ?_
            refine kw_iload_n C d_Md_rows_147 rfl ?_
            refine kw_callSi (cl' := 0) (sl' := 0) (As := [.int a2]) C (c_Md_channels hl n ids  a2 σ32) mi_Md_119 s_Md_channels ⟨Nat.le_of_ble_eq_true rfl, Nat.le_of_ble_eq_true rfl⟩ (Nat.le_of_ble_eq_true rfl) ⟨Nat.le_of_ble_eq_true rfl, Nat.le_of_ble_eq_true rfl⟩ ⟨rfl, rfl⟩ rfl d_Md_rows_148 (fun x34 σ35 => ?_)
            refine kw_imul C d_Md_rows_151 ?_
            refine kw_iload C d_Md_rows_152 rfl ?_
            refine kw_imul C d_Md_rows_154 ?_
            refine kw_bipush (v := 7) C d_Md_rows_155 (by decide) ?_
            refine kw_iadd C d_Md_rows_157 ?_
            refine kw_bipush (v := 8) C d_Md_rows_158 (by decide) ?_
            refine kw_idiv C d_Md_rows_160 ?_
            refine kw_iast C ho33 d_Md_rows_161 (fun σ36 => ?_)
            refine kw_aload_n C d_Md_rows_162 rfl ?_
            refine kw_dup C d_Md_rows_163 rfl ?_
            refine kw_getI C fi_Md_100 (Or.inl rfl) ht d_Md_rows_164 ?_
            refine kw_iconst (v := 1) C d_Md_rows_167 (by decide) ?_
            refine kw_aload_n C d_Md_rows_168 rfl ?_
            refine kw_getR C fi_Md_52 rfl rfl ht d_Md_rows_169 (fun o37 ho37 => ?_)
            refine kw_aload_n C d_Md_rows_172 rfl ?_
            refine kw_getI C fi_Md_97 (Or.inl rfl) ht d_Md_rows_173 ?_
            refine kw_leti (fun x38 => ?_)
            refine kw_iald C (Or.inl ⟨ho37.1, ho37.2.1⟩) d_Md_rows_176 ?_
            refine kw_iadd C d_Md_rows_177 ?_
            refine kw_iadd C d_Md_rows_178 ?_
            refine kw_putI C fi_Md_100 rfl ht d_Md_rows_179 (fun σ39 => ?_)
            refine kw_aload_n C d_Md_rows_182 rfl ?_
            refine kw_dup C d_Md_rows_183 rfl ?_
            refine kw_getI C fi_Md_97 (Or.inl rfl) ht d_Md_rows_184 ?_
            refine kw_iconst (v := 1) C d_Md_rows_187 (by decide) ?_
            refine kw_iadd C d_Md_rows_188 ?_
            refine kw_putI C fi_Md_97 rfl ht d_Md_rows_189 (fun σ40 => ?_)
            refine kw_iincL (L2 := fun x41 => [some (.ref t), some (.int a0), some (.int a1), some (.int a2), some (.int a3), some (.int a4), some (.int x7), some (.int x16), some (.int x19), some (.int x41)]) C d_Md_rows_192 (by decide) rfl (fun _ => rfl) (fun x41 => ?_)
            refine kw_goto (tgt := 84) C d_Md_rows_195 (by decide) ?_
            exact kw_wk (hk21 x41 σ40) ⟨Or.inr rfl, Or.inr rfl, Or.inr rfl, Or.inr rfl, Or.inr rfl, Or.inr rfl, Or.inr rfl, Or.inr rfl, Or.inr rfl, Or.inr rfl, trivial⟩
        · refine kw_if_ne (tgt := 65) C d_Md_rows_58 (by decide) ?_ ?_
          · refine kw_iload_n C d_Md_rows_65 rfl ?_
            refine kw_iload C d_Md_rows_66 rfl ?_
            refine kw_callSi (cl' := 0) (sl' := 0) (As := [.int x7]) C (c_Md_passY hl n ids  x7 σ17) mi_Md_113 s_Md_passY ⟨Nat.le_of_ble_eq_true rfl, Nat.le_of_ble_eq_true rfl⟩ (Nat.le_of_ble_eq_true rfl) ⟨Nat.le_of_ble_eq_true rfl, Nat.le_of_ble_eq_true rfl⟩ ⟨rfl, rfl⟩ rfl d_Md_rows_68 (fun x42 σ43 => ?_)
            refine kw_iload C d_Md_rows_71 rfl ?_
            refine kw_callSi (cl' := 0) (sl' := 0) (As := [.int x7]) C (c_Md_stepY hl n ids  x7 σ43) mi_Md_116 s_Md_stepY ⟨Nat.le_of_ble_eq_true rfl, Nat.le_of_ble_eq_true rfl⟩ (Nat.le_of_ble_eq_true rfl) ⟨Nat.le_of_ble_eq_true rfl, Nat.le_of_ble_eq_true rfl⟩ ⟨rfl, rfl⟩ rfl d_Md_rows_73 (fun x44 σ45 => ?_)
            refine kw_callSi (cl' := 0) (sl' := 0) (As := [.int a1, .int x42, .int x44]) C (c_Md_points hl n ids  a1 x42 x44 σ45) mi_Md_109 s_Md_points ⟨Nat.le_of_ble_eq_true rfl, Nat.le_of_ble_eq_true rfl⟩ (Nat.le_of_ble_eq_true rfl) ⟨Nat.le_of_ble_eq_true rfl, Nat.le_of_ble_eq_true rfl⟩ ⟨rfl, rfl⟩ rfl d_Md_rows_76 (fun x46 σ47 => ?_)
            exact kw_wk (hk18 x46 σ47) ⟨Or.inr rfl, Or.inr rfl, Or.inr rfl, Or.inr rfl, Or.inr rfl, Or.inr rfl, Or.inr rfl, Or.inr rfl, Or.inl rfl, Or.inl rfl, trivial⟩
          · refine kw_iconst (v := 0) C d_Md_rows_61 (by decide) ?_
            refine kw_goto (tgt := 79) C d_Md_rows_62 (by decide) ?_
            exact kw_wk (hk18 0 σ17) ⟨Or.inr rfl, Or.inr rfl, Or.inr rfl, Or.inr rfl, Or.inr rfl, Or.inr rfl, Or.inr rfl, Or.inr rfl, Or.inl rfl, Or.inl rfl, trivial⟩
    · refine kw_if_eq (tgt := 35) C d_Md_rows_27 (by decide) ?_ ?_
      · refine kw_bipush (v := 8) C d_Md_rows_35 (by decide) ?_
        exact kw_wk (hk9 (x7, 8) σ8) ⟨Or.inr rfl, Or.inr rfl, Or.inr rfl, Or.inr rfl, Or.inr rfl, Or.inr rfl, Or.inr rfl, Or.inl rfl, Or.inl rfl, Or.inl rfl, trivial⟩
      · refine kw_bipush (v := 7) C d_Md_rows_30 (by decide) ?_
        refine kw_goto (tgt := 37) C d_Md_rows_32 (by decide) ?_
        exact kw_wk (hk9 (x7, 7) σ8) ⟨Or.inr rfl, Or.inr rfl, Or.inr rfl, Or.inr rfl, Or.inr rfl, Or.inr rfl, Or.inr rfl, Or.inl rfl, Or.inl rfl, Or.inl rfl, trivial⟩
  · refine kw_if_eq (tgt := 19) C d_Md_rows_12 (by decide) ?_ ?_
    · refine kw_bipush (v := 7) C d_Md_rows_19 (by decide) ?_
      exact kw_wk (hk3 7 σ2) ⟨Or.inr rfl, Or.inr rfl, Or.inr rfl, Or.inr rfl, Or.inr rfl, Or.inr rfl, Or.inl rfl, Or.inl rfl, Or.inl rfl, Or.inl rfl, trivial⟩
    · refine kw_iconst (v := 0) C d_Md_rows_15 (by decide) ?_
      refine kw_goto (tgt := 21) C d_Md_rows_16 (by decide) ?_
      exact kw_wk (hk3 0 σ2) ⟨Or.inr rfl, Or.inr rfl, Or.inr rfl, Or.inr rfl, Or.inr rfl, Or.inr rfl, Or.inl rfl, Or.inl rfl, Or.inl rfl, Or.inl rfl, trivial⟩
/-! Md_pointOf -/
def rm_Md_pointOf : Room := { frames := 1, cells := 0, slots := 0, locals := 20 }
def F_Md_pointOf (n : Nat) (t : Nat) (a0 : Int32) (a1 : Int32) (a2 : Int32) (σ : Mm) : Option (Int32 × Mm) :=
Option.bind (gR σ (64 * t + 33)) fun o1 =>
kf_in a0 (mm_kd o1).2.2 <|
kf_let (gB σ o1 a0.toNatClampNeg : Int32) fun x2 =>
kf_c2 (F_Md_passY n x2 σ) fun x3 σ4 =>
Option.bind (gR σ4 (64 * t + 34)) fun o5 =>
kf_in a0 (mm_kd o5).2.2 <|
kf_c2 (F_Md_stepY n x2 σ4) fun x6 σ7 =>
kf_c2 (F_Md_passX n x2 σ7) fun x8 σ9 =>
kf_c2 (F_Md_stepX n x2 σ9) fun x10 σ11 =>
some ((((x3 + ((gB σ4 o5 a0.toNatClampNeg) * x6)) * a2) + x8) + (a1 * x10), σ11)
theorem d_Md_pointOf_0 : decode prog_14_method_24_code 0 = .ok (.aload_n 0, 1) := by decide +kernel
theorem d_Md_pointOf_1 : decode prog_14_method_24_code 1 = .ok (.getfield 43, 3) := by decide +kernel
theorem d_Md_pointOf_4 : decode prog_14_method_24_code 4 = .ok (.iload_n 1, 1) := by decide +kernel
theorem d_Md_pointOf_5 : decode prog_14_method_24_code 5 = .ok (.iaload, 1) := by decide +kernel
theorem d_Md_pointOf_6 : decode prog_14_method_24_code 6 = .ok (.istore 4, 2) := by decide +kernel
theorem d_Md_pointOf_8 : decode prog_14_method_24_code 8 = .ok (.iload 4, 2) := by decide +kernel
theorem d_Md_pointOf_10 : decode prog_14_method_24_code 10 = .ok (.invokestatic 113, 3) := by decide +kernel
theorem d_Md_pointOf_13 : decode prog_14_method_24_code 13 = .ok (.aload_n 0, 1) := by decide +kernel
theorem d_Md_pointOf_14 : decode prog_14_method_24_code 14 = .ok (.getfield 46, 3) := by decide +kernel
theorem d_Md_pointOf_17 : decode prog_14_method_24_code 17 = .ok (.iload_n 1, 1) := by decide +kernel
theorem d_Md_pointOf_18 : decode prog_14_method_24_code 18 = .ok (.iaload, 1) := by decide +kernel
theorem d_Md_pointOf_19 : decode prog_14_method_24_code 19 = .ok (.iload 4, 2) := by decide +kernel
theorem d_Md_pointOf_21 : decode prog_14_method_24_code 21 = .ok (.invokestatic 116, 3) := by decide +kernel
theorem d_Md_pointOf_24 : decode prog_14_method_24_code 24 = .ok (.imul, 1) := by decide +kernel
theorem d_Md_pointOf_25 : decode prog_14_method_24_code 25 = .ok (.iadd, 1) := by decide +kernel
theorem d_Md_pointOf_26 : decode prog_14_method_24_code 26 = .ok (.iload_n 3, 1) := by decide +kernel
theorem d_Md_pointOf_27 : decode prog_14_method_24_code 27 = .ok (.imul, 1) := by decide +kernel
theorem d_Md_pointOf_28 : decode prog_14_method_24_code 28 = .ok (.iload 4, 2) := by decide +kernel
theorem d_Md_pointOf_30 : decode prog_14_method_24_code 30 = .ok (.invokestatic 103, 3) := by decide +kernel
theorem d_Md_pointOf_33 : decode prog_14_method_24_code 33 = .ok (.iadd, 1) := by decide +kernel
theorem d_Md_pointOf_34 : decode prog_14_method_24_code 34 = .ok (.iload_n 2, 1) := by decide +kernel
theorem d_Md_pointOf_35 : decode prog_14_method_24_code 35 = .ok (.iload 4, 2) := by decide +kernel
theorem d_Md_pointOf_37 : decode prog_14_method_24_code 37 = .ok (.invokestatic 106, 3) := by decide +kernel
theorem d_Md_pointOf_40 : decode prog_14_method_24_code 40 = .ok (.imul, 1) := by decide +kernel
theorem d_Md_pointOf_41 : decode prog_14_method_24_code 41 = .ok (.iadd, 1) := by decide +kernel
theorem d_Md_pointOf_42 : decode prog_14_method_24_code 42 = .ok (.ireturn, 1) := by decide +kernel
set_option maxRecDepth 100000 in
set_option maxHeartbeats 4000000 in
theorem c_Md_pointOf {l0 : Launch} (hl : l0.stackTraces = false) (n : Nat) (ids : List Nat) {t : Nat} (ht : mm_ok ids t 1 12) (a0 : Int32) (a1 : Int32) (a2 : Int32) (σ : Mm) : kw_C l0 y_Md_pointOf (Cond.code y_Md_pointOf prog_14_method_24_code 5 (some .int) :: kw_Ts) rm_Md_pointOf kw_oi ids [] [.ref t, .int a0, .int a1, .int a2] σ (F_Md_pointOf n t a0 a1 a2 σ) := by
  refine kw_start (L0 := [some (.ref t), some (.int a0), some (.int a1), some (.int a2), none]) hl (by decide +kernel) (Nat.le_of_ble_eq_true rfl) rfl (fun Γ ad C Ce => ?_)
  unfold F_Md_pointOf
  refine kw_aload_n C d_Md_pointOf_0 rfl ?_
  refine kw_getR C fi_Md_43 rfl rfl ht d_Md_pointOf_1 (fun o1 ho1 => ?_)
  refine kw_iload_n C d_Md_pointOf_4 rfl ?_
  refine kw_iald C (Or.inl ⟨ho1.1, ho1.2.1⟩) d_Md_pointOf_5 ?_
  refine kw_leti (fun x2 => ?_)
  refine kw_istore (L' := [some (.ref t), some (.int a0), some (.int a1), some (.int a2), some (.int x2)]) C d_Md_pointOf_6 (by decide) rfl ?_
  refine kw_iload C d_Md_pointOf_8 rfl ?_
  refine kw_callSi (cl' := 0) (sl' := 0) (As := [.int x2]) C (c_Md_passY hl n ids  x2 σ) mi_Md_113 s_Md_passY ⟨Nat.le_of_ble_eq_true rfl, Nat.le_of_ble_eq_true rfl⟩ (Nat.le_of_ble_eq_true rfl) ⟨Nat.le_of_ble_eq_true rfl, Nat.le_of_ble_eq_true rfl⟩ ⟨rfl, rfl⟩ rfl d_Md_pointOf_10 (fun x3 σ4 => ?_)
  refine kw_aload_n C d_Md_pointOf_13 rfl ?_
  refine kw_getR C fi_Md_46 rfl rfl ht d_Md_pointOf_14 (fun o5 ho5 => ?_)
  refine kw_iload_n C d_Md_pointOf_17 rfl ?_
  refine kw_iald C (Or.inl ⟨ho5.1, ho5.2.1⟩) d_Md_pointOf_18 ?_
  refine kw_iload C d_Md_pointOf_19 rfl ?_
  refine kw_callSi (cl' := 0) (sl' := 0) (As := [.int x2]) C (c_Md_stepY hl n ids  x2 σ4) mi_Md_116 s_Md_stepY ⟨Nat.le_of_ble_eq_true rfl, Nat.le_of_ble_eq_true rfl⟩ (Nat.le_of_ble_eq_true rfl) ⟨Nat.le_of_ble_eq_true rfl, Nat.le_of_ble_eq_true rfl⟩ ⟨rfl, rfl⟩ rfl d_Md_pointOf_21 (fun x6 σ7 => ?_)
  refine kw_imul C d_Md_pointOf_24 ?_
  refine kw_iadd C d_Md_pointOf_25 ?_
  refine kw_iload_n C d_Md_pointOf_26 rfl ?_
  refine kw_imul C d_Md_pointOf_27 ?_
  refine kw_iload C d_Md_pointOf_28 rfl ?_
  refine kw_callSi (cl' := 0) (sl' := 0) (As := [.int x2]) C (c_Md_passX hl n ids  x2 σ7) mi_Md_103 s_Md_passX ⟨Nat.le_of_ble_eq_true rfl, Nat.le_of_ble_eq_true rfl⟩ (Nat.le_of_ble_eq_true rfl) ⟨Nat.le_of_ble_eq_true rfl, Nat.le_of_ble_eq_true rfl⟩ ⟨rfl, rfl⟩ rfl d_Md_pointOf_30 (fun x8 σ9 => ?_)
  refine kw_iadd C d_Md_pointOf_33 ?_
  refine kw_iload_n C d_Md_pointOf_34 rfl ?_
  refine kw_iload C d_Md_pointOf_35 rfl ?_
  refine kw_callSi (cl' := 0) (sl' := 0) (As := [.int x2]) C (c_Md_stepX hl n ids  x2 σ9) mi_Md_106 s_Md_stepX ⟨Nat.le_of_ble_eq_true rfl, Nat.le_of_ble_eq_true rfl⟩ (Nat.le_of_ble_eq_true rfl) ⟨Nat.le_of_ble_eq_true rfl, Nat.le_of_ble_eq_true rfl⟩ ⟨rfl, rfl⟩ rfl d_Md_pointOf_37 (fun x10 σ11 => ?_)
  refine kw_imul C d_Md_pointOf_40 ?_
  refine kw_iadd C d_Md_pointOf_41 ?_
  exact kw_iret C Ce rfl (by simp) (fun _ _ => rfl) (Nat.le_of_ble_eq_true rfl) (Nat.le_of_ble_eq_true rfl) rfl d_Md_pointOf_42
/-! Md_isType -/
def rm_Md_isType : Room := { frames := 1, cells := 0, slots := 0, locals := 21 }
def F_Md_isType (n : Nat) (t : Nat) (a0 : Int32) (a1 : Int32) (a2 : Int32) (a3 : Int32) (a4 : Int32) (σ : Mm) : Option (Int32 × Mm) :=
kf_c2 (F_Md_at n t (a0 + 4) σ) fun x1 σ2 =>
kf_j (α := Int32) (fun x4 σ5 =>
kf_z x4 (some (x4, σ5))) fun k3 =>
kf_j (α := Unit) (fun x7 σ8 =>
k3 0 σ8) fun k6 =>
if x1 = a1 then (
kf_c2 (F_Md_at n t (a0 + 5) σ2) fun x9 σ10 =>
if x9 = a2 then (
kf_c2 (F_Md_at n t (a0 + 6) σ10) fun x11 σ12 =>
if x11 = a3 then (
kf_c2 (F_Md_at n t (a0 + 7) σ12) fun x13 σ14 =>
if x13 = a4 then (
k3 1 σ14) else (
k6 () σ14)) else (
k6 () σ12)) else (
k6 () σ10)) else (
k6 () σ2)
theorem d_Md_isType_0 : decode prog_14_method_25_code 0 = .ok (.aload_n 0, 1) := by decide +kernel
theorem d_Md_isType_1 : decode prog_14_method_25_code 1 = .ok (.iload_n 1, 1) := by decide +kernel
theorem d_Md_isType_2 : decode prog_14_method_25_code 2 = .ok (.iconst 4, 1) := by decide +kernel
theorem d_Md_isType_3 : decode prog_14_method_25_code 3 = .ok (.iadd, 1) := by decide +kernel
theorem d_Md_isType_4 : decode prog_14_method_25_code 4 = .ok (.invokevirtual 84, 3) := by decide +kernel
theorem d_Md_isType_7 : decode prog_14_method_25_code 7 = .ok (.iload_n 2, 1) := by decide +kernel
theorem d_Md_isType_8 : decode prog_14_method_25_code 8 = .ok (.if_icmp .ne 44, 3) := by decide +kernel
theorem d_Md_isType_11 : decode prog_14_method_25_code 11 = .ok (.aload_n 0, 1) := by decide +kernel
theorem d_Md_isType_12 : decode prog_14_method_25_code 12 = .ok (.iload_n 1, 1) := by decide +kernel
theorem d_Md_isType_13 : decode prog_14_method_25_code 13 = .ok (.iconst 5, 1) := by decide +kernel
theorem d_Md_isType_14 : decode prog_14_method_25_code 14 = .ok (.iadd, 1) := by decide +kernel
theorem d_Md_isType_15 : decode prog_14_method_25_code 15 = .ok (.invokevirtual 84, 3) := by decide +kernel
theorem d_Md_isType_18 : decode prog_14_method_25_code 18 = .ok (.iload_n 3, 1) := by decide +kernel
theorem d_Md_isType_19 : decode prog_14_method_25_code 19 = .ok (.if_icmp .ne 33, 3) := by decide +kernel
theorem d_Md_isType_22 : decode prog_14_method_25_code 22 = .ok (.aload_n 0, 1) := by decide +kernel
theorem d_Md_isType_23 : decode prog_14_method_25_code 23 = .ok (.iload_n 1, 1) := by decide +kernel
theorem d_Md_isType_24 : decode prog_14_method_25_code 24 = .ok (.bipush 6, 2) := by decide +kernel
theorem d_Md_isType_26 : decode prog_14_method_25_code 26 = .ok (.iadd, 1) := by decide +kernel
theorem d_Md_isType_27 : decode prog_14_method_25_code 27 = .ok (.invokevirtual 84, 3) := by decide +kernel
theorem d_Md_isType_30 : decode prog_14_method_25_code 30 = .ok (.iload 4, 2) := by decide +kernel
theorem d_Md_isType_32 : decode prog_14_method_25_code 32 = .ok (.if_icmp .ne 20, 3) := by decide +kernel
theorem d_Md_isType_35 : decode prog_14_method_25_code 35 = .ok (.aload_n 0, 1) := by decide +kernel
theorem d_Md_isType_36 : decode prog_14_method_25_code 36 = .ok (.iload_n 1, 1) := by decide +kernel
theorem d_Md_isType_37 : decode prog_14_method_25_code 37 = .ok (.bipush 7, 2) := by decide +kernel
theorem d_Md_isType_39 : decode prog_14_method_25_code 39 = .ok (.iadd, 1) := by decide +kernel
theorem d_Md_isType_40 : decode prog_14_method_25_code 40 = .ok (.invokevirtual 84, 3) := by decide +kernel
theorem d_Md_isType_43 : decode prog_14_method_25_code 43 = .ok (.iload 5, 2) := by decide +kernel
theorem d_Md_isType_45 : decode prog_14_method_25_code 45 = .ok (.if_icmp .ne 7, 3) := by decide +kernel
theorem d_Md_isType_48 : decode prog_14_method_25_code 48 = .ok (.iconst 1, 1) := by decide +kernel
theorem d_Md_isType_49 : decode prog_14_method_25_code 49 = .ok (.goto 4, 3) := by decide +kernel
theorem d_Md_isType_52 : decode prog_14_method_25_code 52 = .ok (.iconst 0, 1) := by decide +kernel
theorem d_Md_isType_53 : decode prog_14_method_25_code 53 = .ok (.ireturn, 1) := by decide +kernel
set_option maxRecDepth 100000 in
set_option maxHeartbeats 4000000 in
theorem c_Md_isType {l0 : Launch} (hl : l0.stackTraces = false) (n : Nat) (ids : List Nat) {t : Nat} (ht : mm_ok ids t 1 12) (a0 : Int32) (a1 : Int32) (a2 : Int32) (a3 : Int32) (a4 : Int32) (σ : Mm) : kw_C l0 y_Md_isType (Cond.code y_Md_isType prog_14_method_25_code 6 (some .boolean) :: kw_Ts) rm_Md_isType kw_oi ids [] [.ref t, .int a0, .int a1, .int a2, .int a3, .int a4] σ (F_Md_isType n t a0 a1 a2 a3 a4 σ) := by
  refine kw_start (L0 := [some (.ref t), some (.int a0), some (.int a1), some (.int a2), some (.int a3), some (.int a4)]) hl (by decide +kernel) (Nat.le_of_ble_eq_true rfl) rfl (fun Γ ad C Ce => ?_)
  unfold F_Md_isType
  refine kw_aload_n C d_Md_isType_0 rfl ?_
  refine kw_iload_n C d_Md_isType_1 rfl ?_
  refine kw_iconst (v := 4) C d_Md_isType_2 (by decide) ?_
  refine kw_iadd C d_Md_isType_3 ?_
  refine kw_callVi (cl' := 0) (sl' := 0) (As := [.int (a0 + 4)]) C (c_Md_at hl n ids ht (a0 + 4) σ) mi_Md_84 v_Md_at ⟨_, _, rfl⟩ ht ⟨Nat.le_of_ble_eq_true rfl, Nat.le_of_ble_eq_true rfl⟩ (Nat.le_of_ble_eq_true rfl) ⟨Nat.le_of_ble_eq_true rfl, Nat.le_of_ble_eq_true rfl⟩ ⟨rfl, rfl⟩ rfl d_Md_isType_4 (fun x1 σ2 => ?_)
  refine kw_iload_n C d_Md_isType_7 rfl ?_
  refine kw_j (α := Int32) (pcj := 53) (Lj := fun x4 => [none, none, none, none, none, none]) (stj := fun x4 => [.int x4]) (fun x4 σ5 => ?_) (fun k3 hk3 => ?_)
  · exact kw_zret C Ce rfl (by simp) (fun _ _ => rfl) (Nat.le_of_ble_eq_true rfl) (Nat.le_of_ble_eq_true rfl) rfl d_Md_isType_53
  · refine kw_j (α := Unit) (pcj := 52) (Lj := fun x7 => [none, none, none, none, none, none]) (stj := fun x7 => []) (fun x7 σ8 => ?_) (fun k6 hk6 => ?_)
    · refine kw_iconst (v := 0) C d_Md_isType_52 (by decide) ?_
      exact kw_wk (hk3 0 σ8) ⟨Or.inl rfl, Or.inl rfl, Or.inl rfl, Or.inl rfl, Or.inl rfl, Or.inl rfl, trivial⟩
    · refine kw_icmp_ne (tgt := 52) C d_Md_isType_8 (by decide) ?_ ?_
      · exact kw_wk (hk6 () σ2) ⟨Or.inl rfl, Or.inl rfl, Or.inl rfl, Or.inl rfl, Or.inl rfl, Or.inl rfl, trivial⟩
      · refine kw_aload_n C d_Md_isType_11 rfl ?_
        refine kw_iload_n C d_Md_isType_12 rfl ?_
        refine kw_iconst (v := 5) C d_Md_isType_13 (by decide) ?_
        refine kw_iadd C d_Md_isType_14 ?_
        refine kw_callVi (cl' := 0) (sl' := 0) (As := [.int (a0 + 5)]) C (c_Md_at hl n ids ht (a0 + 5) σ2) mi_Md_84 v_Md_at ⟨_, _, rfl⟩ ht ⟨Nat.le_of_ble_eq_true rfl, Nat.le_of_ble_eq_true rfl⟩ (Nat.le_of_ble_eq_true rfl) ⟨Nat.le_of_ble_eq_true rfl, Nat.le_of_ble_eq_true rfl⟩ ⟨rfl, rfl⟩ rfl d_Md_isType_15 (fun x9 σ10 => ?_)
        refine kw_iload_n C d_Md_isType_18 rfl ?_
        refine kw_icmp_ne (tgt := 52) C d_Md_isType_19 (by decide) ?_ ?_
        · exact kw_wk (hk6 () σ10) ⟨Or.inl rfl, Or.inl rfl, Or.inl rfl, Or.inl rfl, Or.inl rfl, Or.inl rfl, trivial⟩
        · refine kw_aload_n C d_Md_isType_22 rfl ?_
          refine kw_iload_n C d_Md_isType_23 rfl ?_
          refine kw_bipush (v := 6) C d_Md_isType_24 (by decide) ?_
          refine kw_iadd C d_Md_isType_26 ?_
          refine kw_callVi (cl' := 0) (sl' := 0) (As := [.int (a0 + 6)]) C (c_Md_at hl n ids ht (a0 + 6) σ10) mi_Md_84 v_Md_at ⟨_, _, rfl⟩ ht ⟨Nat.le_of_ble_eq_true rfl, Nat.le_of_ble_eq_true rfl⟩ (Nat.le_of_ble_eq_true rfl) ⟨Nat.le_of_ble_eq_true rfl, Nat.le_of_ble_eq_true rfl⟩ ⟨rfl, rfl⟩ rfl d_Md_isType_27 (fun x11 σ12 => ?_)
          refine kw_iload C d_Md_isType_30 rfl ?_
          refine kw_icmp_ne (tgt := 52) C d_Md_isType_32 (by decide) ?_ ?_
          · exact kw_wk (hk6 () σ12) ⟨Or.inl rfl, Or.inl rfl, Or.inl rfl, Or.inl rfl, Or.inl rfl, Or.inl rfl, trivial⟩
          · refine kw_aload_n C d_Md_isType_35 rfl ?_
            refine kw_iload_n C d_Md_isType_36 rfl ?_
            refine kw_bipush (v := 7) C d_Md_isType_37 (by decide) ?_
            refine kw_iadd C d_Md_isType_39 ?_
            refine kw_callVi (cl' := 0) (sl' := 0) (As := [.int (a0 + 7)]) C (c_Md_at hl n ids ht (a0 + 7) σ12) mi_Md_84 v_Md_at ⟨_, _, rfl⟩ ht ⟨Nat.le_of_ble_eq_true rfl, Nat.le_of_ble_eq_true rfl⟩ (Nat.le_of_ble_eq_true rfl) ⟨Nat.le_of_ble_eq_true rfl, Nat.le_of_ble_eq_true rfl⟩ ⟨rfl, rfl⟩ rfl d_Md_isType_40 (fun x13 σ14 => ?_)
            refine kw_iload C d_Md_isType_43 rfl ?_
            refine kw_icmp_ne (tgt := 52) C d_Md_isType_45 (by decide) ?_ ?_
            · exact kw_wk (hk6 () σ14) ⟨Or.inl rfl, Or.inl rfl, Or.inl rfl, Or.inl rfl, Or.inl rfl, Or.inl rfl, trivial⟩
            · refine kw_iconst (v := 1) C d_Md_isType_48 (by decide) ?_
              refine kw_goto (tgt := 53) C d_Md_isType_49 (by decide) ?_
              exact kw_wk (hk3 1 σ14) ⟨Or.inl rfl, Or.inl rfl, Or.inl rfl, Or.inl rfl, Or.inl rfl, Or.inl rfl, trivial⟩
/-! Md_isLetter -/
def rm_Md_isLetter : Room := { frames := 0, cells := 0, slots := 0, locals := 0 }
def F_Md_isLetter (n : Nat) (a0 : Int32) (σ : Mm) : Option (Int32 × Mm) :=
kf_j (α := Int32) (fun x2 σ3 =>
kf_z x2 (some (x2, σ3))) fun k1 =>
kf_j (α := Unit) (fun x5 σ6 =>
k1 1 σ6) fun k4 =>
kf_j (α := Unit) (fun x8 σ9 =>
kf_j (α := Unit) (fun x11 σ12 =>
k1 0 σ12) fun k10 =>
if a0 < 97 then (
k10 () σ9) else (
if 122 < a0 then (
k10 () σ9) else (
k4 () σ9))) fun k7 =>
if a0 < 65 then (
k7 () σ) else (
if a0 ≤ 90 then (
k4 () σ) else (
k7 () σ))
theorem d_Md_isLetter_0 : decode prog_14_method_26_code 0 = .ok (.iload_n 0, 1) := by decide +kernel
theorem d_Md_isLetter_1 : decode prog_14_method_26_code 1 = .ok (.bipush 65, 2) := by decide +kernel
theorem d_Md_isLetter_3 : decode prog_14_method_26_code 3 = .ok (.if_icmp .lt 9, 3) := by decide +kernel
theorem d_Md_isLetter_6 : decode prog_14_method_26_code 6 = .ok (.iload_n 0, 1) := by decide +kernel
theorem d_Md_isLetter_7 : decode prog_14_method_26_code 7 = .ok (.bipush 90, 2) := by decide +kernel
theorem d_Md_isLetter_9 : decode prog_14_method_26_code 9 = .ok (.if_icmp .le 15, 3) := by decide +kernel
theorem d_Md_isLetter_12 : decode prog_14_method_26_code 12 = .ok (.iload_n 0, 1) := by decide +kernel
theorem d_Md_isLetter_13 : decode prog_14_method_26_code 13 = .ok (.bipush 97, 2) := by decide +kernel
theorem d_Md_isLetter_15 : decode prog_14_method_26_code 15 = .ok (.if_icmp .lt 13, 3) := by decide +kernel
theorem d_Md_isLetter_18 : decode prog_14_method_26_code 18 = .ok (.iload_n 0, 1) := by decide +kernel
theorem d_Md_isLetter_19 : decode prog_14_method_26_code 19 = .ok (.bipush 122, 2) := by decide +kernel
theorem d_Md_isLetter_21 : decode prog_14_method_26_code 21 = .ok (.if_icmp .gt 7, 3) := by decide +kernel
theorem d_Md_isLetter_24 : decode prog_14_method_26_code 24 = .ok (.iconst 1, 1) := by decide +kernel
theorem d_Md_isLetter_25 : decode prog_14_method_26_code 25 = .ok (.goto 4, 3) := by decide +kernel
theorem d_Md_isLetter_28 : decode prog_14_method_26_code 28 = .ok (.iconst 0, 1) := by decide +kernel
theorem d_Md_isLetter_29 : decode prog_14_method_26_code 29 = .ok (.ireturn, 1) := by decide +kernel
set_option maxRecDepth 100000 in
set_option maxHeartbeats 4000000 in
theorem c_Md_isLetter {l0 : Launch} (hl : l0.stackTraces = false) (n : Nat) (ids : List Nat)  (a0 : Int32) (σ : Mm) : kw_C l0 y_Md_isLetter (Cond.code y_Md_isLetter prog_14_method_26_code 1 (some .boolean) :: kw_Ts) rm_Md_isLetter kw_oi ids [] [.int a0] σ (F_Md_isLetter n a0 σ) := by
  refine kw_start (L0 := [some (.int a0)]) hl (by decide +kernel) (Nat.le_of_ble_eq_true rfl) rfl (fun Γ ad C Ce => ?_)
  unfold F_Md_isLetter
  refine kw_iload_n C d_Md_isLetter_0 rfl ?_
  refine kw_bipush (v := 65) C d_Md_isLetter_1 (by decide) ?_
  refine kw_j (α := Int32) (pcj := 29) (Lj := fun x2 => [none]) (stj := fun x2 => [.int x2]) (fun x2 σ3 => ?_) (fun k1 hk1 => ?_)
  · exact kw_zret C Ce rfl (by simp) (fun _ _ => rfl) (Nat.le_of_ble_eq_true rfl) (Nat.le_of_ble_eq_true rfl) rfl d_Md_isLetter_29
  · refine kw_j (α := Unit) (pcj := 24) (Lj := fun x5 => [none]) (stj := fun x5 => []) (fun x5 σ6 => ?_) (fun k4 hk4 => ?_)
    · refine kw_iconst (v := 1) C d_Md_isLetter_24 (by decide) ?_
      refine kw_goto (tgt := 29) C d_Md_isLetter_25 (by decide) ?_
      exact kw_wk (hk1 1 σ6) ⟨Or.inl rfl, trivial⟩
    · refine kw_j (α := Unit) (pcj := 12) (Lj := fun x8 => [some (.int a0)]) (stj := fun x8 => []) (fun x8 σ9 => ?_) (fun k7 hk7 => ?_)
      · refine kw_iload_n C d_Md_isLetter_12 rfl ?_
        refine kw_bipush (v := 97) C d_Md_isLetter_13 (by decide) ?_
        refine kw_j (α := Unit) (pcj := 28) (Lj := fun x11 => [none]) (stj := fun x11 => []) (fun x11 σ12 => ?_) (fun k10 hk10 => ?_)
        · refine kw_iconst (v := 0) C d_Md_isLetter_28 (by decide) ?_
          exact kw_wk (hk1 0 σ12) ⟨Or.inl rfl, trivial⟩
        · refine kw_icmp_lt (tgt := 28) C d_Md_isLetter_15 (by decide) ?_ ?_
          · exact kw_wk (hk10 () σ9) ⟨Or.inl rfl, trivial⟩
          · refine kw_iload_n C d_Md_isLetter_18 rfl ?_
            refine kw_bipush (v := 122) C d_Md_isLetter_19 (by decide) ?_
            refine kw_icmp_gt (tgt := 28) C d_Md_isLetter_21 (by decide) ?_ ?_
            · exact kw_wk (hk10 () σ9) ⟨Or.inl rfl, trivial⟩
            · exact kw_wk (hk4 () σ9) ⟨Or.inl rfl, trivial⟩
      · refine kw_icmp_lt (tgt := 12) C d_Md_isLetter_3 (by decide) ?_ ?_
        · exact kw_wk (hk7 () σ) ⟨Or.inr rfl, trivial⟩
        · refine kw_iload_n C d_Md_isLetter_6 rfl ?_
          refine kw_bipush (v := 90) C d_Md_isLetter_7 (by decide) ?_
          refine kw_icmp_le (tgt := 24) C d_Md_isLetter_9 (by decide) ?_ ?_
          · exact kw_wk (hk4 () σ) ⟨Or.inl rfl, trivial⟩
          · exact kw_wk (hk7 () σ) ⟨Or.inr rfl, trivial⟩
/-! Md_isPiece -/
def rm_Md_isPiece : Room := { frames := 2, cells := 0, slots := 0, locals := 47 }
def F_Md_isPiece (n : Nat) (t : Nat) (a0 : Int32) (σ : Mm) : Option (Int32 × Mm) :=
if (a0 + 8) ≤ (gS σ (64 * t + 2)) then (
kf_c2 (F_Md_number n t a0 σ) fun x1 σ2 =>
if (lg_cmp x1 2147483647) ≤ 0 then (
kf_l (α := Int32) n (fun k3 x4 σ5 =>
if 8 ≤ x4 then (
if (lg_cmp ((a0.toInt64 + 12) + x1) ((gS σ5 (64 * t + 2)).toInt64)) ≤ 0 then (
kf_let ((a0 + 8) + x1.toInt32 : Int32) fun x6 =>
kf_c2 (F_Md_number n t x6 σ5) fun x7 σ8 =>
kf_c2 (F_Md_check n t (a0 + 4) (x1.toInt32 + 4) σ8) fun x9 σ10 =>
kf_j (α := Int32) (fun x12 σ13 =>
kf_z x12 (some (x12, σ13))) fun k11 =>
kf_j (α := Unit) (fun x15 σ16 =>
k11 1 σ16) fun k14 =>
if (lg_cmp x7 x9) = 0 then (
k14 () σ10) else (
kf_c2 (F_Md_flaw n t 5 x6 σ10) fun x17 σ18 =>
if x17 = 0 then (
k11 0 σ18) else (
k14 () σ18))) else (
kf_c2 (F_Md_flaw n t 2 (gS σ5 (64 * t + 2)) σ5) fun x19 σ20 =>
kf_z x19 (some (x19, σ20)))) else (
kf_c2 (F_Md_at n t (a0 + x4) σ5) fun x21 σ22 =>
kf_c2 (F_Md_isLetter n x21 σ22) fun x23 σ24 =>
if x23 = 0 then (
kf_c2 (F_Md_flaw n t 4 (a0 + x4) σ24) fun x26 σ27 =>
kf_z x26 (some (x26, σ27))) else (
kf_let (x4 + Int32.ofInt 1) fun x25 =>
k3 x25 σ24))) 4 σ2) else (
kf_c2 (F_Md_flaw n t 3 a0 σ2) fun x28 σ29 =>
kf_z x28 (some (x28, σ29)))) else (
kf_c2 (F_Md_flaw n t 2 (gS σ (64 * t + 2)) σ) fun x30 σ31 =>
kf_z x30 (some (x30, σ31)))
theorem d_Md_isPiece_0 : decode prog_14_method_28_code 0 = .ok (.iload_n 1, 1) := by decide +kernel
theorem d_Md_isPiece_1 : decode prog_14_method_28_code 1 = .ok (.bipush 8, 2) := by decide +kernel
theorem d_Md_isPiece_3 : decode prog_14_method_28_code 3 = .ok (.iadd, 1) := by decide +kernel
theorem d_Md_isPiece_4 : decode prog_14_method_28_code 4 = .ok (.aload_n 0, 1) := by decide +kernel
theorem d_Md_isPiece_5 : decode prog_14_method_28_code 5 = .ok (.getfield 71, 3) := by decide +kernel
theorem d_Md_isPiece_8 : decode prog_14_method_28_code 8 = .ok (.if_icmp .le 13, 3) := by decide +kernel
theorem d_Md_isPiece_11 : decode prog_14_method_28_code 11 = .ok (.aload_n 0, 1) := by decide +kernel
theorem d_Md_isPiece_12 : decode prog_14_method_28_code 12 = .ok (.iconst 2, 1) := by decide +kernel
theorem d_Md_isPiece_13 : decode prog_14_method_28_code 13 = .ok (.aload_n 0, 1) := by decide +kernel
theorem d_Md_isPiece_14 : decode prog_14_method_28_code 14 = .ok (.getfield 71, 3) := by decide +kernel
theorem d_Md_isPiece_17 : decode prog_14_method_28_code 17 = .ok (.invokevirtual 122, 3) := by decide +kernel
theorem d_Md_isPiece_20 : decode prog_14_method_28_code 20 = .ok (.ireturn, 1) := by decide +kernel
theorem d_Md_isPiece_21 : decode prog_14_method_28_code 21 = .ok (.aload_n 0, 1) := by decide +kernel
theorem d_Md_isPiece_22 : decode prog_14_method_28_code 22 = .ok (.iload_n 1, 1) := by decide +kernel
theorem d_Md_isPiece_23 : decode prog_14_method_28_code 23 = .ok (.invokevirtual 159, 3) := by decide +kernel
theorem d_Md_isPiece_26 : decode prog_14_method_28_code 26 = .ok (.lstore_n 2, 1) := by decide +kernel
theorem d_Md_isPiece_27 : decode prog_14_method_28_code 27 = .ok (.lload_n 2, 1) := by decide +kernel
theorem d_Md_isPiece_28 : decode prog_14_method_28_code 28 = .ok (.ldc2_w 163, 3) := by decide +kernel
theorem d_Md_isPiece_31 : decode prog_14_method_28_code 31 = .ok (.lcmp, 1) := by decide +kernel
theorem d_Md_isPiece_32 : decode prog_14_method_28_code 32 = .ok (.ifCond .le 10, 3) := by decide +kernel
theorem d_Md_isPiece_35 : decode prog_14_method_28_code 35 = .ok (.aload_n 0, 1) := by decide +kernel
theorem d_Md_isPiece_36 : decode prog_14_method_28_code 36 = .ok (.iconst 3, 1) := by decide +kernel
theorem d_Md_isPiece_37 : decode prog_14_method_28_code 37 = .ok (.iload_n 1, 1) := by decide +kernel
theorem d_Md_isPiece_38 : decode prog_14_method_28_code 38 = .ok (.invokevirtual 122, 3) := by decide +kernel
theorem d_Md_isPiece_41 : decode prog_14_method_28_code 41 = .ok (.ireturn, 1) := by decide +kernel
theorem d_Md_isPiece_42 : decode prog_14_method_28_code 42 = .ok (.iconst 4, 1) := by decide +kernel
theorem d_Md_isPiece_43 : decode prog_14_method_28_code 43 = .ok (.istore 4, 2) := by decide +kernel
theorem d_Md_isPiece_45 : decode prog_14_method_28_code 45 = .ok (.iload 4, 2) := by decide +kernel
theorem d_Md_isPiece_47 : decode prog_14_method_28_code 47 = .ok (.bipush 8, 2) := by decide +kernel
theorem d_Md_isPiece_49 : decode prog_14_method_28_code 49 = .ok (.if_icmp .ge 33, 3) := by decide +kernel
theorem d_Md_isPiece_52 : decode prog_14_method_28_code 52 = .ok (.aload_n 0, 1) := by decide +kernel
theorem d_Md_isPiece_53 : decode prog_14_method_28_code 53 = .ok (.iload_n 1, 1) := by decide +kernel
theorem d_Md_isPiece_54 : decode prog_14_method_28_code 54 = .ok (.iload 4, 2) := by decide +kernel
theorem d_Md_isPiece_56 : decode prog_14_method_28_code 56 = .ok (.iadd, 1) := by decide +kernel
theorem d_Md_isPiece_57 : decode prog_14_method_28_code 57 = .ok (.invokevirtual 84, 3) := by decide +kernel
theorem d_Md_isPiece_60 : decode prog_14_method_28_code 60 = .ok (.invokestatic 165, 3) := by decide +kernel
theorem d_Md_isPiece_63 : decode prog_14_method_28_code 63 = .ok (.ifCond .ne 13, 3) := by decide +kernel
theorem d_Md_isPiece_66 : decode prog_14_method_28_code 66 = .ok (.aload_n 0, 1) := by decide +kernel
theorem d_Md_isPiece_67 : decode prog_14_method_28_code 67 = .ok (.iconst 4, 1) := by decide +kernel
theorem d_Md_isPiece_68 : decode prog_14_method_28_code 68 = .ok (.iload_n 1, 1) := by decide +kernel
theorem d_Md_isPiece_69 : decode prog_14_method_28_code 69 = .ok (.iload 4, 2) := by decide +kernel
theorem d_Md_isPiece_71 : decode prog_14_method_28_code 71 = .ok (.iadd, 1) := by decide +kernel
theorem d_Md_isPiece_72 : decode prog_14_method_28_code 72 = .ok (.invokevirtual 122, 3) := by decide +kernel
theorem d_Md_isPiece_75 : decode prog_14_method_28_code 75 = .ok (.ireturn, 1) := by decide +kernel
theorem d_Md_isPiece_76 : decode prog_14_method_28_code 76 = .ok (.iinc 4 1, 3) := by decide +kernel
theorem d_Md_isPiece_79 : decode prog_14_method_28_code 79 = .ok (.goto (-34), 3) := by decide +kernel
theorem d_Md_isPiece_82 : decode prog_14_method_28_code 82 = .ok (.iload_n 1, 1) := by decide +kernel
theorem d_Md_isPiece_83 : decode prog_14_method_28_code 83 = .ok (.i2l, 1) := by decide +kernel
theorem d_Md_isPiece_84 : decode prog_14_method_28_code 84 = .ok (.ldc2_w 168, 3) := by decide +kernel
theorem d_Md_isPiece_87 : decode prog_14_method_28_code 87 = .ok (.ladd, 1) := by decide +kernel
theorem d_Md_isPiece_88 : decode prog_14_method_28_code 88 = .ok (.lload_n 2, 1) := by decide +kernel
theorem d_Md_isPiece_89 : decode prog_14_method_28_code 89 = .ok (.ladd, 1) := by decide +kernel
theorem d_Md_isPiece_90 : decode prog_14_method_28_code 90 = .ok (.aload_n 0, 1) := by decide +kernel
theorem d_Md_isPiece_91 : decode prog_14_method_28_code 91 = .ok (.getfield 71, 3) := by decide +kernel
theorem d_Md_isPiece_94 : decode prog_14_method_28_code 94 = .ok (.i2l, 1) := by decide +kernel
theorem d_Md_isPiece_95 : decode prog_14_method_28_code 95 = .ok (.lcmp, 1) := by decide +kernel
theorem d_Md_isPiece_96 : decode prog_14_method_28_code 96 = .ok (.ifCond .le 13, 3) := by decide +kernel
theorem d_Md_isPiece_99 : decode prog_14_method_28_code 99 = .ok (.aload_n 0, 1) := by decide +kernel
theorem d_Md_isPiece_100 : decode prog_14_method_28_code 100 = .ok (.iconst 2, 1) := by decide +kernel
theorem d_Md_isPiece_101 : decode prog_14_method_28_code 101 = .ok (.aload_n 0, 1) := by decide +kernel
theorem d_Md_isPiece_102 : decode prog_14_method_28_code 102 = .ok (.getfield 71, 3) := by decide +kernel
theorem d_Md_isPiece_105 : decode prog_14_method_28_code 105 = .ok (.invokevirtual 122, 3) := by decide +kernel
theorem d_Md_isPiece_108 : decode prog_14_method_28_code 108 = .ok (.ireturn, 1) := by decide +kernel
theorem d_Md_isPiece_109 : decode prog_14_method_28_code 109 = .ok (.iload_n 1, 1) := by decide +kernel
theorem d_Md_isPiece_110 : decode prog_14_method_28_code 110 = .ok (.bipush 8, 2) := by decide +kernel
theorem d_Md_isPiece_112 : decode prog_14_method_28_code 112 = .ok (.iadd, 1) := by decide +kernel
theorem d_Md_isPiece_113 : decode prog_14_method_28_code 113 = .ok (.lload_n 2, 1) := by decide +kernel
theorem d_Md_isPiece_114 : decode prog_14_method_28_code 114 = .ok (.l2i, 1) := by decide +kernel
theorem d_Md_isPiece_115 : decode prog_14_method_28_code 115 = .ok (.iadd, 1) := by decide +kernel
theorem d_Md_isPiece_116 : decode prog_14_method_28_code 116 = .ok (.istore 4, 2) := by decide +kernel
theorem d_Md_isPiece_118 : decode prog_14_method_28_code 118 = .ok (.aload_n 0, 1) := by decide +kernel
theorem d_Md_isPiece_119 : decode prog_14_method_28_code 119 = .ok (.iload 4, 2) := by decide +kernel
theorem d_Md_isPiece_121 : decode prog_14_method_28_code 121 = .ok (.invokevirtual 159, 3) := by decide +kernel
theorem d_Md_isPiece_124 : decode prog_14_method_28_code 124 = .ok (.aload_n 0, 1) := by decide +kernel
theorem d_Md_isPiece_125 : decode prog_14_method_28_code 125 = .ok (.iload_n 1, 1) := by decide +kernel
theorem d_Md_isPiece_126 : decode prog_14_method_28_code 126 = .ok (.iconst 4, 1) := by decide +kernel
theorem d_Md_isPiece_127 : decode prog_14_method_28_code 127 = .ok (.iadd, 1) := by decide +kernel
theorem d_Md_isPiece_128 : decode prog_14_method_28_code 128 = .ok (.lload_n 2, 1) := by decide +kernel
theorem d_Md_isPiece_129 : decode prog_14_method_28_code 129 = .ok (.l2i, 1) := by decide +kernel
theorem d_Md_isPiece_130 : decode prog_14_method_28_code 130 = .ok (.iconst 4, 1) := by decide +kernel
theorem d_Md_isPiece_131 : decode prog_14_method_28_code 131 = .ok (.iadd, 1) := by decide +kernel
theorem d_Md_isPiece_132 : decode prog_14_method_28_code 132 = .ok (.invokevirtual 76, 3) := by decide +kernel
theorem d_Md_isPiece_135 : decode prog_14_method_28_code 135 = .ok (.lcmp, 1) := by decide +kernel
theorem d_Md_isPiece_136 : decode prog_14_method_28_code 136 = .ok (.ifCond .eq 13, 3) := by decide +kernel
theorem d_Md_isPiece_139 : decode prog_14_method_28_code 139 = .ok (.aload_n 0, 1) := by decide +kernel
theorem d_Md_isPiece_140 : decode prog_14_method_28_code 140 = .ok (.iconst 5, 1) := by decide +kernel
theorem d_Md_isPiece_141 : decode prog_14_method_28_code 141 = .ok (.iload 4, 2) := by decide +kernel
theorem d_Md_isPiece_143 : decode prog_14_method_28_code 143 = .ok (.invokevirtual 122, 3) := by decide +kernel
theorem d_Md_isPiece_146 : decode prog_14_method_28_code 146 = .ok (.ifCond .eq 7, 3) := by decide +kernel
theorem d_Md_isPiece_149 : decode prog_14_method_28_code 149 = .ok (.iconst 1, 1) := by decide +kernel
theorem d_Md_isPiece_150 : decode prog_14_method_28_code 150 = .ok (.goto 4, 3) := by decide +kernel
theorem d_Md_isPiece_153 : decode prog_14_method_28_code 153 = .ok (.iconst 0, 1) := by decide +kernel
theorem d_Md_isPiece_154 : decode prog_14_method_28_code 154 = .ok (.ireturn, 1) := by decide +kernel
set_option maxRecDepth 100000 in
set_option maxHeartbeats 4000000 in
theorem c_Md_isPiece {l0 : Launch} (hl : l0.stackTraces = false) (n : Nat) (ids : List Nat) {t : Nat} (ht : mm_ok ids t 1 12) (a0 : Int32) (σ : Mm) : kw_C l0 y_Md_isPiece (Cond.code y_Md_isPiece prog_14_method_28_code 5 (some .boolean) :: kw_Ts) rm_Md_isPiece kw_oi ids [] [.ref t, .int a0] σ (F_Md_isPiece n t a0 σ) := by
  refine kw_start (L0 := [some (.ref t), some (.int a0), none, none, none]) hl (by decide +kernel) (Nat.le_of_ble_eq_true rfl) rfl (fun Γ ad C Ce => ?_)
  unfold F_Md_isPiece
  refine kw_iload_n C d_Md_isPiece_0 rfl ?_
  refine kw_bipush (v := 8) C d_Md_isPiece_1 (by decide) ?_
  refine kw_iadd C d_Md_isPiece_3 ?_
  refine kw_aload_n C d_Md_isPiece_4 rfl ?_
  refine kw_getI C fi_Md_71 (Or.inl rfl) ht d_Md_isPiece_5 ?_
  refine kw_icmp_le (tgt := 21) C d_Md_isPiece_8 (by decide) ?_ ?_
  · refine kw_aload_n C d_Md_isPiece_21 rfl ?_
    refine kw_iload_n C d_Md_isPiece_22 rfl ?_
    refine kw_callVl (cl' := 0) (sl' := 0) (As := [.int a0]) C (c_Md_number hl n ids ht a0 σ) mi_Md_159 v_Md_number ⟨_, _, rfl⟩ ht ⟨Nat.le_of_ble_eq_true rfl, Nat.le_of_ble_eq_true rfl⟩ (Nat.le_of_ble_eq_true rfl) ⟨Nat.le_of_ble_eq_true rfl, Nat.le_of_ble_eq_true rfl⟩ ⟨rfl, rfl⟩ rfl d_Md_isPiece_23 (fun x1 σ2 => ?_)
    refine kw_lstore_n (L' := [some (.ref t), some (.int a0), some (.long x1), none, none]) C d_Md_isPiece_26 (by decide) rfl ?_
    refine kw_lload_n C d_Md_isPiece_27 rfl ?_
    refine kw_ldc2 (v := 2147483647) C d_Md_isPiece_28 k_Md_163 ?_
    refine kw_lcmp C d_Md_isPiece_31 ?_
    refine kw_if_le (tgt := 42) C d_Md_isPiece_32 (by decide) ?_ ?_
    · refine kw_iconst (v := 4) C d_Md_isPiece_42 (by decide) ?_
      refine kw_istore (L' := [some (.ref t), some (.int a0), some (.long x1), none, some (.int 4)]) C d_Md_isPiece_43 (by decide) rfl ?_
      refine kw_wk (kw_l (α := Int32) (pc := 45) (Lj := fun x4 => [some (.ref t), some (.int a0), some (.long x1), none, some (.int x4)]) (stj := fun x4 => []) (fun k3 hk3 x4 σ5 => ?_) n 4 σ2) ⟨Or.inr rfl, Or.inr rfl, Or.inr rfl, Or.inl rfl, Or.inr rfl, trivial⟩
      refine kw_iload C d_Md_isPiece_45 rfl ?_
      refine kw_bipush (v := 8) C d_Md_isPiece_47 (by decide) ?_
      refine kw_icmp_ge (tgt := 82) C d_Md_isPiece_49 (by decide) ?_ ?_
      · refine kw_iload_n C d_Md_isPiece_82 rfl ?_
        refine kw_i2l C d_Md_isPiece_83 ?_
        refine kw_ldc2 (v := 12) C d_Md_isPiece_84 k_Md_168 ?_
        refine kw_ladd C d_Md_isPiece_87 ?_
        refine kw_lload_n C d_Md_isPiece_88 rfl ?_
        refine kw_ladd C d_Md_isPiece_89 ?_
        refine kw_aload_n C d_Md_isPiece_90 rfl ?_
        refine kw_getI C fi_Md_71 (Or.inl rfl) ht d_Md_isPiece_91 ?_
        refine kw_i2l C d_Md_isPiece_94 ?_
        refine kw_lcmp C d_Md_isPiece_95 ?_
        refine kw_if_le (tgt := 109) C d_Md_isPiece_96 (by decide) ?_ ?_
        · refine kw_iload_n C d_Md_isPiece_109 rfl ?_
          refine kw_bipush (v := 8) C d_Md_isPiece_110 (by decide) ?_
          refine kw_iadd C d_Md_isPiece_112 ?_
          refine kw_lload_n C d_Md_isPiece_113 rfl ?_
          refine kw_l2i C d_Md_isPiece_114 ?_
          refine kw_iadd C d_Md_isPiece_115 ?_
          refine kw_leti (fun x6 => ?_)
          refine kw_istore (L' := [some (.ref t), some (.int a0), some (.long x1), none, some (.int x6)]) C d_Md_isPiece_116 (by decide) rfl ?_
          refine kw_aload_n C d_Md_isPiece_118 rfl ?_
          refine kw_iload C d_Md_isPiece_119 rfl ?_
          refine kw_callVl (cl' := 0) (sl' := 0) (As := [.int x6]) C (c_Md_number hl n ids ht x6 σ5) mi_Md_159 v_Md_number ⟨_, _, rfl⟩ ht ⟨Nat.le_of_ble_eq_true rfl, Nat.le_of_ble_eq_true rfl⟩ (Nat.le_of_ble_eq_true rfl) ⟨Nat.le_of_ble_eq_true rfl, Nat.le_of_ble_eq_true rfl⟩ ⟨rfl, rfl⟩ rfl d_Md_isPiece_121 (fun x7 σ8 => ?_)
          refine kw_aload_n C d_Md_isPiece_124 rfl ?_
          refine kw_iload_n C d_Md_isPiece_125 rfl ?_
          refine kw_iconst (v := 4) C d_Md_isPiece_126 (by decide) ?_
          refine kw_iadd C d_Md_isPiece_127 ?_
          refine kw_lload_n C d_Md_isPiece_128 rfl ?_
          refine kw_l2i C d_Md_isPiece_129 ?_
          refine kw_iconst (v := 4) C d_Md_isPiece_130 (by decide) ?_
          refine kw_iadd C d_Md_isPiece_131 ?_
          refine kw_callVl (cl' := 0) (sl' := 0) (As := [.int (a0 + 4), .int (x1.toInt32 + 4)]) C (c_Md_check hl n ids ht (a0 + 4) (x1.toInt32 + 4) σ8) mi_Md_76 v_Md_check ⟨_, _, rfl⟩ ht ⟨Nat.le_of_ble_eq_true rfl, Nat.le_of_ble_eq_true rfl⟩ (Nat.le_of_ble_eq_true rfl) ⟨Nat.le_of_ble_eq_true rfl, Nat.le_of_ble_eq_true rfl⟩ ⟨rfl, rfl⟩ rfl d_Md_isPiece_132 (fun x9 σ10 => ?_)
          refine kw_lcmp C d_Md_isPiece_135 ?_
          refine kw_j (α := Int32) (pcj := 154) (Lj := fun x12 => [none, none, none, none, none]) (stj := fun x12 => [.int x12]) (fun x12 σ13 => ?_) (fun k11 hk11 => ?_)
          · exact kw_zret C Ce rfl (by simp) (fun _ _ => rfl) (Nat.le_of_ble_eq_true rfl) (Nat.le_of_ble_eq_true rfl) rfl d_Md_isPiece_154
          · refine kw_j (α := Unit) (pcj := 149) (Lj := fun x15 => [none, none, none, none, none]) (stj := fun x15 => []) (fun x15 σ16 => ?_) (fun k14 hk14 => ?_)
            · refine kw_iconst (v := 1) C d_Md_isPiece_149 (by decide) ?_
              refine kw_goto (tgt := 154) C d_Md_isPiece_150 (by decide) ?_
              exact kw_wk (hk11 1 σ16) ⟨Or.inl rfl, Or.inl rfl, Or.inl rfl, Or.inl rfl, Or.inl rfl, trivial⟩
            · refine kw_if_eq (tgt := 149) C d_Md_isPiece_136 (by decide) ?_ ?_
              · exact kw_wk (hk14 () σ10) ⟨Or.inl rfl, Or.inl rfl, Or.inl rfl, Or.inl rfl, Or.inl rfl, trivial⟩
              · refine kw_aload_n C d_Md_isPiece_139 rfl ?_
                refine kw_iconst (v := 5) C d_Md_isPiece_140 (by decide) ?_
                refine kw_iload C d_Md_isPiece_141 rfl ?_
                refine kw_callVi (cl' := 0) (sl' := 0) (As := [.int 5, .int x6]) C (c_Md_flaw hl n ids ht 5 x6 σ10) mi_Md_122 v_Md_flaw ⟨_, _, rfl⟩ ht ⟨Nat.le_of_ble_eq_true rfl, Nat.le_of_ble_eq_true rfl⟩ (Nat.le_of_ble_eq_true rfl) ⟨Nat.le_of_ble_eq_true rfl, Nat.le_of_ble_eq_true rfl⟩ ⟨rfl, rfl⟩ rfl d_Md_isPiece_143 (fun x17 σ18 => ?_)
                refine kw_if_eq (tgt := 153) C d_Md_isPiece_146 (by decide) ?_ ?_
                · refine kw_iconst (v := 0) C d_Md_isPiece_153 (by decide) ?_
                  exact kw_wk (hk11 0 σ18) ⟨Or.inl rfl, Or.inl rfl, Or.inl rfl, Or.inl rfl, Or.inl rfl, trivial⟩
                · exact kw_wk (hk14 () σ18) ⟨Or.inl rfl, Or.inl rfl, Or.inl rfl, Or.inl rfl, Or.inl rfl, trivial⟩
        · refine kw_aload_n C d_Md_isPiece_99 rfl ?_
          refine kw_iconst (v := 2) C d_Md_isPiece_100 (by decide) ?_
          refine kw_aload_n C d_Md_isPiece_101 rfl ?_
          refine kw_getI C fi_Md_71 (Or.inl rfl) ht d_Md_isPiece_102 ?_
          refine kw_callVi (cl' := 0) (sl' := 0) (As := [.int 2, .int (gS σ5 (64 * t + 2))]) C (c_Md_flaw hl n ids ht 2 (gS σ5 (64 * t + 2)) σ5) mi_Md_122 v_Md_flaw ⟨_, _, rfl⟩ ht ⟨Nat.le_of_ble_eq_true rfl, Nat.le_of_ble_eq_true rfl⟩ (Nat.le_of_ble_eq_true rfl) ⟨Nat.le_of_ble_eq_true rfl, Nat.le_of_ble_eq_true rfl⟩ ⟨rfl, rfl⟩ rfl d_Md_isPiece_105 (fun x19 σ20 => ?_)
          exact kw_zret C Ce rfl (by simp) (fun _ _ => rfl) (Nat.le_of_ble_eq_true rfl) (Nat.le_of_ble_eq_true rfl) rfl d_Md_isPiece_108
      · refine kw_aload_n C d_Md_isPiece_52 rfl ?_
        refine kw_iload_n C d_Md_isPiece_53 rfl ?_
        refine kw_iload C d_Md_isPiece_54 rfl ?_
        refine kw_iadd C d_Md_isPiece_56 ?_
        refine kw_callVi (cl' := 0) (sl' := 0) (As := [.int (a0 + x4)]) C (c_Md_at hl n ids ht (a0 + x4) σ5) mi_Md_84 v_Md_at ⟨_, _, rfl⟩ ht ⟨Nat.le_of_ble_eq_true rfl, Nat.le_of_ble_eq_true rfl⟩ (Nat.le_of_ble_eq_true rfl) ⟨Nat.le_of_ble_eq_true rfl, Nat.le_of_ble_eq_true rfl⟩ ⟨rfl, rfl⟩ rfl d_Md_isPiece_57 (fun x21 σ22 => ?_)
        refine kw_callSi (cl' := 0) (sl' := 0) (As := [.int x21]) C (c_Md_isLetter hl n ids  x21 σ22) mi_Md_165 s_Md_isLetter ⟨Nat.le_of_ble_eq_true rfl, Nat.le_of_ble_eq_true rfl⟩ (Nat.le_of_ble_eq_true rfl) ⟨Nat.le_of_ble_eq_true rfl, Nat.le_of_ble_eq_true rfl⟩ ⟨rfl, rfl⟩ rfl d_Md_isPiece_60 (fun x23 σ24 => ?_)
        refine kw_if_ne (tgt := 76) C d_Md_isPiece_63 (by decide) ?_ ?_
        · refine kw_iincL (L2 := fun x25 => [some (.ref t), some (.int a0), some (.long x1), none, some (.int x25)]) C d_Md_isPiece_76 (by decide) rfl (fun _ => rfl) (fun x25 => ?_)
          refine kw_goto (tgt := 45) C d_Md_isPiece_79 (by decide) ?_
          exact kw_wk (hk3 x25 σ24) ⟨Or.inr rfl, Or.inr rfl, Or.inr rfl, Or.inl rfl, Or.inr rfl, trivial⟩
        · refine kw_aload_n C d_Md_isPiece_66 rfl ?_
          refine kw_iconst (v := 4) C d_Md_isPiece_67 (by decide) ?_
          refine kw_iload_n C d_Md_isPiece_68 rfl ?_
          refine kw_iload C d_Md_isPiece_69 rfl ?_
          refine kw_iadd C d_Md_isPiece_71 ?_
          refine kw_callVi (cl' := 0) (sl' := 0) (As := [.int 4, .int (a0 + x4)]) C (c_Md_flaw hl n ids ht 4 (a0 + x4) σ24) mi_Md_122 v_Md_flaw ⟨_, _, rfl⟩ ht ⟨Nat.le_of_ble_eq_true rfl, Nat.le_of_ble_eq_true rfl⟩ (Nat.le_of_ble_eq_true rfl) ⟨Nat.le_of_ble_eq_true rfl, Nat.le_of_ble_eq_true rfl⟩ ⟨rfl, rfl⟩ rfl d_Md_isPiece_72 (fun x26 σ27 => ?_)
          exact kw_zret C Ce rfl (by simp) (fun _ _ => rfl) (Nat.le_of_ble_eq_true rfl) (Nat.le_of_ble_eq_true rfl) rfl d_Md_isPiece_75
    · refine kw_aload_n C d_Md_isPiece_35 rfl ?_
      refine kw_iconst (v := 3) C d_Md_isPiece_36 (by decide) ?_
      refine kw_iload_n C d_Md_isPiece_37 rfl ?_
      refine kw_callVi (cl' := 0) (sl' := 0) (As := [.int 3, .int a0]) C (c_Md_flaw hl n ids ht 3 a0 σ2) mi_Md_122 v_Md_flaw ⟨_, _, rfl⟩ ht ⟨Nat.le_of_ble_eq_true rfl, Nat.le_of_ble_eq_true rfl⟩ (Nat.le_of_ble_eq_true rfl) ⟨Nat.le_of_ble_eq_true rfl, Nat.le_of_ble_eq_true rfl⟩ ⟨rfl, rfl⟩ rfl d_Md_isPiece_38 (fun x28 σ29 => ?_)
      exact kw_zret C Ce rfl (by simp) (fun _ _ => rfl) (Nat.le_of_ble_eq_true rfl) (Nat.le_of_ble_eq_true rfl) rfl d_Md_isPiece_41
  · refine kw_aload_n C d_Md_isPiece_11 rfl ?_
    refine kw_iconst (v := 2) C d_Md_isPiece_12 (by decide) ?_
    refine kw_aload_n C d_Md_isPiece_13 rfl ?_
    refine kw_getI C fi_Md_71 (Or.inl rfl) ht d_Md_isPiece_14 ?_
    refine kw_callVi (cl' := 0) (sl' := 0) (As := [.int 2, .int (gS σ (64 * t + 2))]) C (c_Md_flaw hl n ids ht 2 (gS σ (64 * t + 2)) σ) mi_Md_122 v_Md_flaw ⟨_, _, rfl⟩ ht ⟨Nat.le_of_ble_eq_true rfl, Nat.le_of_ble_eq_true rfl⟩ (Nat.le_of_ble_eq_true rfl) ⟨Nat.le_of_ble_eq_true rfl, Nat.le_of_ble_eq_true rfl⟩ ⟨rfl, rfl⟩ rfl d_Md_isPiece_17 (fun x30 σ31 => ?_)
    exact kw_zret C Ce rfl (by simp) (fun _ _ => rfl) (Nat.le_of_ble_eq_true rfl) (Nat.le_of_ble_eq_true rfl) rfl d_Md_isPiece_20
/-! Md_mayStand -/
def rm_Md_mayStand : Room := { frames := 2, cells := 0, slots := 0, locals := 46 }
def F_Md_mayStand (n : Nat) (t : Nat) (a0 : Int32) (σ : Mm) : Option (Int32 × Mm) :=
kf_c2 (F_Md_isType n t a0 73 72 68 82 σ) fun x1 σ2 =>
kf_j (α := Int32 × Int32) (fun x4 σ5 =>
kf_j (α := Int32) (fun x7 σ8 =>
kf_j (α := Int32 × Int32) (fun x10 σ11 =>
if x10.1 = 0 then (
kf_c2 (F_Md_flaw n t 6 (a0 + 4) σ11) fun x22 σ23 =>
kf_z x22 (some (x22, σ23))) else (
kf_j (α := Int32) (fun x13 σ14 =>
kf_z x13 (some (x13, σ14))) fun k12 =>
kf_j (α := Unit) (fun x16 σ17 =>
k12 1 σ17) fun k15 =>
if x10.2 = 0 then (
kf_c2 (F_Md_at n t (a0 + 4) σ11) fun x18 σ19 =>
if 97 ≤ x18 then (
k15 () σ19) else (
kf_c2 (F_Md_flaw n t 7 (a0 + 4) σ19) fun x20 σ21 =>
if x20 = 0 then (
k12 0 σ21) else (
k15 () σ21))) else (
k15 () σ11))) fun k9 =>
kf_j (α := Unit) (fun x25 σ26 =>
kf_j (α := Unit) (fun x28 σ29 =>
kf_j (α := Unit) (fun x31 σ32 =>
if x7 = 0 then (
k9 (x7, x1) σ32) else (
kf_c2 (F_Md_isType n t a0 73 69 78 68 σ32) fun x33 σ34 =>
if x33 = 0 then (
k9 (x7, x1) σ34) else (
kf_j (α := Int32) (fun x36 σ37 =>
k9 (x36, 1) σ37) fun k35 =>
if (gS σ34 (64 * t + 42)) ≤ 0 then (
k35 0 σ34) else (
k35 1 σ34)))) fun k30 =>
if x7 = 0 then (
k30 () σ29) else (
kf_c2 (F_Md_isType n t a0 73 68 65 84 σ29) fun x38 σ39 =>
if x38 = 0 then (
k30 () σ39) else (
kf_j (α := Int32) (fun x41 σ42 =>
k9 (x41, 1) σ42) fun k40 =>
kf_j (α := Unit) (fun x44 σ45 =>
k40 0 σ45) fun k43 =>
if 2 ≤ (gS σ39 (64 * t + 42)) then (
k43 () σ39) else (
kf_j (α := Unit) (fun x47 σ48 =>
k40 1 σ48) fun k46 =>
if (gS σ39 (64 * t + 18)) = 3 then (
if (gS σ39 (64 * t + 40)) = 0 then (
k43 () σ39) else (
k46 () σ39)) else (
k46 () σ39))))) fun k27 =>
if x7 = 0 then (
k27 () σ26) else (
kf_c2 (F_Md_isType n t a0 116 82 78 83 σ26) fun x49 σ50 =>
if x49 = 0 then (
k27 () σ50) else (
kf_j (α := Int32) (fun x52 σ53 =>
k9 (x52, 1) σ53) fun k51 =>
kf_j (α := Unit) (fun x55 σ56 =>
k51 0 σ56) fun k54 =>
if (gS σ50 (64 * t + 41)) = 0 then (
if (gS σ50 (64 * t + 42)) = 0 then (
if (gS σ50 (64 * t + 18)) = 4 then (
k54 () σ50) else (
if (gS σ50 (64 * t + 18)) = 6 then (
k54 () σ50) else (
kf_j (α := Unit) (fun x58 σ59 =>
k51 1 σ59) fun k57 =>
if (gS σ50 (64 * t + 18)) = 3 then (
if (gS σ50 (64 * t + 40)) = 0 then (
k54 () σ50) else (
k57 () σ50)) else (
k57 () σ50)))) else (
k54 () σ50)) else (
k54 () σ50)))) fun k24 =>
if x7 = 0 then (
k24 () σ8) else (
kf_c2 (F_Md_isType n t a0 80 76 84 69 σ8) fun x60 σ61 =>
if x60 = 0 then (
k24 () σ61) else (
kf_j (α := Int32) (fun x63 σ64 =>
k9 (x63, 1) σ64) fun k62 =>
kf_j (α := Unit) (fun x66 σ67 =>
k62 0 σ67) fun k65 =>
if (gS σ61 (64 * t + 40)) = 0 then (
if (gS σ61 (64 * t + 41)) = 0 then (
if (gS σ61 (64 * t + 42)) = 0 then (
if (gS σ61 (64 * t + 18)) = 0 then (
k65 () σ61) else (
if (gS σ61 (64 * t + 18)) = 4 then (
k65 () σ61) else (
k62 1 σ61))) else (
k65 () σ61)) else (
k65 () σ61)) else (
k65 () σ61)))) fun k6 =>
if x4.1 = x4.2 then (
k6 1 σ5) else (
k6 0 σ5)) fun k3 =>
if a0 = 8 then (
k3 (x1, 1) σ2) else (
k3 (x1, 0) σ2)
theorem d_Md_mayStand_0 : decode prog_14_method_29_code 0 = .ok (.aload_n 0, 1) := by decide +kernel
theorem d_Md_mayStand_1 : decode prog_14_method_29_code 1 = .ok (.iload_n 1, 1) := by decide +kernel
theorem d_Md_mayStand_2 : decode prog_14_method_29_code 2 = .ok (.bipush 73, 2) := by decide +kernel
theorem d_Md_mayStand_4 : decode prog_14_method_29_code 4 = .ok (.bipush 72, 2) := by decide +kernel
theorem d_Md_mayStand_6 : decode prog_14_method_29_code 6 = .ok (.bipush 68, 2) := by decide +kernel
theorem d_Md_mayStand_8 : decode prog_14_method_29_code 8 = .ok (.bipush 82, 2) := by decide +kernel
theorem d_Md_mayStand_10 : decode prog_14_method_29_code 10 = .ok (.invokevirtual 155, 3) := by decide +kernel
theorem d_Md_mayStand_13 : decode prog_14_method_29_code 13 = .ok (.istore_n 2, 1) := by decide +kernel
theorem d_Md_mayStand_14 : decode prog_14_method_29_code 14 = .ok (.iload_n 2, 1) := by decide +kernel
theorem d_Md_mayStand_15 : decode prog_14_method_29_code 15 = .ok (.iload_n 1, 1) := by decide +kernel
theorem d_Md_mayStand_16 : decode prog_14_method_29_code 16 = .ok (.bipush 8, 2) := by decide +kernel
theorem d_Md_mayStand_18 : decode prog_14_method_29_code 18 = .ok (.if_icmp .ne 7, 3) := by decide +kernel
theorem d_Md_mayStand_21 : decode prog_14_method_29_code 21 = .ok (.iconst 1, 1) := by decide +kernel
theorem d_Md_mayStand_22 : decode prog_14_method_29_code 22 = .ok (.goto 4, 3) := by decide +kernel
theorem d_Md_mayStand_25 : decode prog_14_method_29_code 25 = .ok (.iconst 0, 1) := by decide +kernel
theorem d_Md_mayStand_26 : decode prog_14_method_29_code 26 = .ok (.if_icmp .ne 7, 3) := by decide +kernel
theorem d_Md_mayStand_29 : decode prog_14_method_29_code 29 = .ok (.iconst 1, 1) := by decide +kernel
theorem d_Md_mayStand_30 : decode prog_14_method_29_code 30 = .ok (.goto 4, 3) := by decide +kernel
theorem d_Md_mayStand_33 : decode prog_14_method_29_code 33 = .ok (.iconst 0, 1) := by decide +kernel
theorem d_Md_mayStand_34 : decode prog_14_method_29_code 34 = .ok (.istore_n 3, 1) := by decide +kernel
theorem d_Md_mayStand_35 : decode prog_14_method_29_code 35 = .ok (.iload_n 2, 1) := by decide +kernel
theorem d_Md_mayStand_36 : decode prog_14_method_29_code 36 = .ok (.istore 4, 2) := by decide +kernel
theorem d_Md_mayStand_38 : decode prog_14_method_29_code 38 = .ok (.iload_n 3, 1) := by decide +kernel
theorem d_Md_mayStand_39 : decode prog_14_method_29_code 39 = .ok (.ifCond .eq 67, 3) := by decide +kernel
theorem d_Md_mayStand_42 : decode prog_14_method_29_code 42 = .ok (.aload_n 0, 1) := by decide +kernel
theorem d_Md_mayStand_43 : decode prog_14_method_29_code 43 = .ok (.iload_n 1, 1) := by decide +kernel
theorem d_Md_mayStand_44 : decode prog_14_method_29_code 44 = .ok (.bipush 80, 2) := by decide +kernel
theorem d_Md_mayStand_46 : decode prog_14_method_29_code 46 = .ok (.bipush 76, 2) := by decide +kernel
theorem d_Md_mayStand_48 : decode prog_14_method_29_code 48 = .ok (.bipush 84, 2) := by decide +kernel
theorem d_Md_mayStand_50 : decode prog_14_method_29_code 50 = .ok (.bipush 69, 2) := by decide +kernel
theorem d_Md_mayStand_52 : decode prog_14_method_29_code 52 = .ok (.invokevirtual 155, 3) := by decide +kernel
theorem d_Md_mayStand_55 : decode prog_14_method_29_code 55 = .ok (.ifCond .eq 51, 3) := by decide +kernel
theorem d_Md_mayStand_58 : decode prog_14_method_29_code 58 = .ok (.iconst 1, 1) := by decide +kernel
theorem d_Md_mayStand_59 : decode prog_14_method_29_code 59 = .ok (.istore 4, 2) := by decide +kernel
theorem d_Md_mayStand_61 : decode prog_14_method_29_code 61 = .ok (.aload_n 0, 1) := by decide +kernel
theorem d_Md_mayStand_62 : decode prog_14_method_29_code 62 = .ok (.getfield 126, 3) := by decide +kernel
theorem d_Md_mayStand_65 : decode prog_14_method_29_code 65 = .ok (.ifCond .ne 36, 3) := by decide +kernel
theorem d_Md_mayStand_68 : decode prog_14_method_29_code 68 = .ok (.aload_n 0, 1) := by decide +kernel
theorem d_Md_mayStand_69 : decode prog_14_method_29_code 69 = .ok (.getfield 130, 3) := by decide +kernel
theorem d_Md_mayStand_72 : decode prog_14_method_29_code 72 = .ok (.ifCond .ne 29, 3) := by decide +kernel
theorem d_Md_mayStand_75 : decode prog_14_method_29_code 75 = .ok (.aload_n 0, 1) := by decide +kernel
theorem d_Md_mayStand_76 : decode prog_14_method_29_code 76 = .ok (.getfield 133, 3) := by decide +kernel
theorem d_Md_mayStand_79 : decode prog_14_method_29_code 79 = .ok (.ifCond .ne 22, 3) := by decide +kernel
theorem d_Md_mayStand_82 : decode prog_14_method_29_code 82 = .ok (.aload_n 0, 1) := by decide +kernel
theorem d_Md_mayStand_83 : decode prog_14_method_29_code 83 = .ok (.getfield 170, 3) := by decide +kernel
theorem d_Md_mayStand_86 : decode prog_14_method_29_code 86 = .ok (.ifCond .eq 15, 3) := by decide +kernel
theorem d_Md_mayStand_89 : decode prog_14_method_29_code 89 = .ok (.aload_n 0, 1) := by decide +kernel
theorem d_Md_mayStand_90 : decode prog_14_method_29_code 90 = .ok (.getfield 170, 3) := by decide +kernel
theorem d_Md_mayStand_93 : decode prog_14_method_29_code 93 = .ok (.iconst 4, 1) := by decide +kernel
theorem d_Md_mayStand_94 : decode prog_14_method_29_code 94 = .ok (.if_icmp .eq 7, 3) := by decide +kernel
theorem d_Md_mayStand_97 : decode prog_14_method_29_code 97 = .ok (.iconst 1, 1) := by decide +kernel
theorem d_Md_mayStand_98 : decode prog_14_method_29_code 98 = .ok (.goto 4, 3) := by decide +kernel
theorem d_Md_mayStand_101 : decode prog_14_method_29_code 101 = .ok (.iconst 0, 1) := by decide +kernel
theorem d_Md_mayStand_102 : decode prog_14_method_29_code 102 = .ok (.istore_n 3, 1) := by decide +kernel
theorem d_Md_mayStand_103 : decode prog_14_method_29_code 103 = .ok (.goto 172, 3) := by decide +kernel
theorem d_Md_mayStand_106 : decode prog_14_method_29_code 106 = .ok (.iload_n 3, 1) := by decide +kernel
theorem d_Md_mayStand_107 : decode prog_14_method_29_code 107 = .ok (.ifCond .eq 77, 3) := by decide +kernel
theorem d_Md_mayStand_110 : decode prog_14_method_29_code 110 = .ok (.aload_n 0, 1) := by decide +kernel
theorem d_Md_mayStand_111 : decode prog_14_method_29_code 111 = .ok (.iload_n 1, 1) := by decide +kernel
theorem d_Md_mayStand_112 : decode prog_14_method_29_code 112 = .ok (.bipush 116, 2) := by decide +kernel
theorem d_Md_mayStand_114 : decode prog_14_method_29_code 114 = .ok (.bipush 82, 2) := by decide +kernel
theorem d_Md_mayStand_116 : decode prog_14_method_29_code 116 = .ok (.bipush 78, 2) := by decide +kernel
theorem d_Md_mayStand_118 : decode prog_14_method_29_code 118 = .ok (.bipush 83, 2) := by decide +kernel
theorem d_Md_mayStand_120 : decode prog_14_method_29_code 120 = .ok (.invokevirtual 155, 3) := by decide +kernel
theorem d_Md_mayStand_123 : decode prog_14_method_29_code 123 = .ok (.ifCond .eq 61, 3) := by decide +kernel
theorem d_Md_mayStand_126 : decode prog_14_method_29_code 126 = .ok (.iconst 1, 1) := by decide +kernel
theorem d_Md_mayStand_127 : decode prog_14_method_29_code 127 = .ok (.istore 4, 2) := by decide +kernel
theorem d_Md_mayStand_129 : decode prog_14_method_29_code 129 = .ok (.aload_n 0, 1) := by decide +kernel
theorem d_Md_mayStand_130 : decode prog_14_method_29_code 130 = .ok (.getfield 130, 3) := by decide +kernel
theorem d_Md_mayStand_133 : decode prog_14_method_29_code 133 = .ok (.ifCond .ne 46, 3) := by decide +kernel
theorem d_Md_mayStand_136 : decode prog_14_method_29_code 136 = .ok (.aload_n 0, 1) := by decide +kernel
theorem d_Md_mayStand_137 : decode prog_14_method_29_code 137 = .ok (.getfield 133, 3) := by decide +kernel
theorem d_Md_mayStand_140 : decode prog_14_method_29_code 140 = .ok (.ifCond .ne 39, 3) := by decide +kernel
theorem d_Md_mayStand_143 : decode prog_14_method_29_code 143 = .ok (.aload_n 0, 1) := by decide +kernel
theorem d_Md_mayStand_144 : decode prog_14_method_29_code 144 = .ok (.getfield 170, 3) := by decide +kernel
theorem d_Md_mayStand_147 : decode prog_14_method_29_code 147 = .ok (.iconst 4, 1) := by decide +kernel
theorem d_Md_mayStand_148 : decode prog_14_method_29_code 148 = .ok (.if_icmp .eq 31, 3) := by decide +kernel
theorem d_Md_mayStand_151 : decode prog_14_method_29_code 151 = .ok (.aload_n 0, 1) := by decide +kernel
theorem d_Md_mayStand_152 : decode prog_14_method_29_code 152 = .ok (.getfield 170, 3) := by decide +kernel
theorem d_Md_mayStand_155 : decode prog_14_method_29_code 155 = .ok (.bipush 6, 2) := by decide +kernel
theorem d_Md_mayStand_157 : decode prog_14_method_29_code 157 = .ok (.if_icmp .eq 22, 3) := by decide +kernel
theorem d_Md_mayStand_160 : decode prog_14_method_29_code 160 = .ok (.aload_n 0, 1) := by decide +kernel
theorem d_Md_mayStand_161 : decode prog_14_method_29_code 161 = .ok (.getfield 170, 3) := by decide +kernel
theorem d_Md_mayStand_164 : decode prog_14_method_29_code 164 = .ok (.iconst 3, 1) := by decide +kernel
theorem d_Md_mayStand_165 : decode prog_14_method_29_code 165 = .ok (.if_icmp .ne 10, 3) := by decide +kernel
theorem d_Md_mayStand_168 : decode prog_14_method_29_code 168 = .ok (.aload_n 0, 1) := by decide +kernel
theorem d_Md_mayStand_169 : decode prog_14_method_29_code 169 = .ok (.getfield 126, 3) := by decide +kernel
theorem d_Md_mayStand_172 : decode prog_14_method_29_code 172 = .ok (.ifCond .eq 7, 3) := by decide +kernel
theorem d_Md_mayStand_175 : decode prog_14_method_29_code 175 = .ok (.iconst 1, 1) := by decide +kernel
theorem d_Md_mayStand_176 : decode prog_14_method_29_code 176 = .ok (.goto 4, 3) := by decide +kernel
theorem d_Md_mayStand_179 : decode prog_14_method_29_code 179 = .ok (.iconst 0, 1) := by decide +kernel
theorem d_Md_mayStand_180 : decode prog_14_method_29_code 180 = .ok (.istore_n 3, 1) := by decide +kernel
theorem d_Md_mayStand_181 : decode prog_14_method_29_code 181 = .ok (.goto 94, 3) := by decide +kernel
theorem d_Md_mayStand_184 : decode prog_14_method_29_code 184 = .ok (.iload_n 3, 1) := by decide +kernel
theorem d_Md_mayStand_185 : decode prog_14_method_29_code 185 = .ok (.ifCond .eq 54, 3) := by decide +kernel
theorem d_Md_mayStand_188 : decode prog_14_method_29_code 188 = .ok (.aload_n 0, 1) := by decide +kernel
theorem d_Md_mayStand_189 : decode prog_14_method_29_code 189 = .ok (.iload_n 1, 1) := by decide +kernel
theorem d_Md_mayStand_190 : decode prog_14_method_29_code 190 = .ok (.bipush 73, 2) := by decide +kernel
theorem d_Md_mayStand_192 : decode prog_14_method_29_code 192 = .ok (.bipush 68, 2) := by decide +kernel
theorem d_Md_mayStand_194 : decode prog_14_method_29_code 194 = .ok (.bipush 65, 2) := by decide +kernel
theorem d_Md_mayStand_196 : decode prog_14_method_29_code 196 = .ok (.bipush 84, 2) := by decide +kernel
theorem d_Md_mayStand_198 : decode prog_14_method_29_code 198 = .ok (.invokevirtual 155, 3) := by decide +kernel
theorem d_Md_mayStand_201 : decode prog_14_method_29_code 201 = .ok (.ifCond .eq 38, 3) := by decide +kernel
theorem d_Md_mayStand_204 : decode prog_14_method_29_code 204 = .ok (.iconst 1, 1) := by decide +kernel
theorem d_Md_mayStand_205 : decode prog_14_method_29_code 205 = .ok (.istore 4, 2) := by decide +kernel
theorem d_Md_mayStand_207 : decode prog_14_method_29_code 207 = .ok (.aload_n 0, 1) := by decide +kernel
theorem d_Md_mayStand_208 : decode prog_14_method_29_code 208 = .ok (.getfield 133, 3) := by decide +kernel
theorem d_Md_mayStand_211 : decode prog_14_method_29_code 211 = .ok (.iconst 2, 1) := by decide +kernel
theorem d_Md_mayStand_212 : decode prog_14_method_29_code 212 = .ok (.if_icmp .ge 22, 3) := by decide +kernel
theorem d_Md_mayStand_215 : decode prog_14_method_29_code 215 = .ok (.aload_n 0, 1) := by decide +kernel
theorem d_Md_mayStand_216 : decode prog_14_method_29_code 216 = .ok (.getfield 170, 3) := by decide +kernel
theorem d_Md_mayStand_219 : decode prog_14_method_29_code 219 = .ok (.iconst 3, 1) := by decide +kernel
theorem d_Md_mayStand_220 : decode prog_14_method_29_code 220 = .ok (.if_icmp .ne 10, 3) := by decide +kernel
theorem d_Md_mayStand_223 : decode prog_14_method_29_code 223 = .ok (.aload_n 0, 1) := by decide +kernel
theorem d_Md_mayStand_224 : decode prog_14_method_29_code 224 = .ok (.getfield 126, 3) := by decide +kernel
theorem d_Md_mayStand_227 : decode prog_14_method_29_code 227 = .ok (.ifCond .eq 7, 3) := by decide +kernel
theorem d_Md_mayStand_230 : decode prog_14_method_29_code 230 = .ok (.iconst 1, 1) := by decide +kernel
theorem d_Md_mayStand_231 : decode prog_14_method_29_code 231 = .ok (.goto 4, 3) := by decide +kernel
theorem d_Md_mayStand_234 : decode prog_14_method_29_code 234 = .ok (.iconst 0, 1) := by decide +kernel
theorem d_Md_mayStand_235 : decode prog_14_method_29_code 235 = .ok (.istore_n 3, 1) := by decide +kernel
theorem d_Md_mayStand_236 : decode prog_14_method_29_code 236 = .ok (.goto 39, 3) := by decide +kernel
theorem d_Md_mayStand_239 : decode prog_14_method_29_code 239 = .ok (.iload_n 3, 1) := by decide +kernel
theorem d_Md_mayStand_240 : decode prog_14_method_29_code 240 = .ok (.ifCond .eq 35, 3) := by decide +kernel
theorem d_Md_mayStand_243 : decode prog_14_method_29_code 243 = .ok (.aload_n 0, 1) := by decide +kernel
theorem d_Md_mayStand_244 : decode prog_14_method_29_code 244 = .ok (.iload_n 1, 1) := by decide +kernel
theorem d_Md_mayStand_245 : decode prog_14_method_29_code 245 = .ok (.bipush 73, 2) := by decide +kernel
theorem d_Md_mayStand_247 : decode prog_14_method_29_code 247 = .ok (.bipush 69, 2) := by decide +kernel
theorem d_Md_mayStand_249 : decode prog_14_method_29_code 249 = .ok (.bipush 78, 2) := by decide +kernel
theorem d_Md_mayStand_251 : decode prog_14_method_29_code 251 = .ok (.bipush 68, 2) := by decide +kernel
theorem d_Md_mayStand_253 : decode prog_14_method_29_code 253 = .ok (.invokevirtual 155, 3) := by decide +kernel
theorem d_Md_mayStand_256 : decode prog_14_method_29_code 256 = .ok (.ifCond .eq 19, 3) := by decide +kernel
theorem d_Md_mayStand_259 : decode prog_14_method_29_code 259 = .ok (.iconst 1, 1) := by decide +kernel
theorem d_Md_mayStand_260 : decode prog_14_method_29_code 260 = .ok (.istore 4, 2) := by decide +kernel
theorem d_Md_mayStand_262 : decode prog_14_method_29_code 262 = .ok (.aload_n 0, 1) := by decide +kernel
theorem d_Md_mayStand_263 : decode prog_14_method_29_code 263 = .ok (.getfield 133, 3) := by decide +kernel
theorem d_Md_mayStand_266 : decode prog_14_method_29_code 266 = .ok (.ifCond .le 7, 3) := by decide +kernel
theorem d_Md_mayStand_269 : decode prog_14_method_29_code 269 = .ok (.iconst 1, 1) := by decide +kernel
theorem d_Md_mayStand_270 : decode prog_14_method_29_code 270 = .ok (.goto 4, 3) := by decide +kernel
theorem d_Md_mayStand_273 : decode prog_14_method_29_code 273 = .ok (.iconst 0, 1) := by decide +kernel
theorem d_Md_mayStand_274 : decode prog_14_method_29_code 274 = .ok (.istore_n 3, 1) := by decide +kernel
theorem d_Md_mayStand_275 : decode prog_14_method_29_code 275 = .ok (.iload_n 3, 1) := by decide +kernel
theorem d_Md_mayStand_276 : decode prog_14_method_29_code 276 = .ok (.ifCond .ne 13, 3) := by decide +kernel
theorem d_Md_mayStand_279 : decode prog_14_method_29_code 279 = .ok (.aload_n 0, 1) := by decide +kernel
theorem d_Md_mayStand_280 : decode prog_14_method_29_code 280 = .ok (.bipush 6, 2) := by decide +kernel
theorem d_Md_mayStand_282 : decode prog_14_method_29_code 282 = .ok (.iload_n 1, 1) := by decide +kernel
theorem d_Md_mayStand_283 : decode prog_14_method_29_code 283 = .ok (.iconst 4, 1) := by decide +kernel
theorem d_Md_mayStand_284 : decode prog_14_method_29_code 284 = .ok (.iadd, 1) := by decide +kernel
theorem d_Md_mayStand_285 : decode prog_14_method_29_code 285 = .ok (.invokevirtual 122, 3) := by decide +kernel
theorem d_Md_mayStand_288 : decode prog_14_method_29_code 288 = .ok (.ireturn, 1) := by decide +kernel
theorem d_Md_mayStand_289 : decode prog_14_method_29_code 289 = .ok (.iload 4, 2) := by decide +kernel
theorem d_Md_mayStand_291 : decode prog_14_method_29_code 291 = .ok (.ifCond .ne 27, 3) := by decide +kernel
theorem d_Md_mayStand_294 : decode prog_14_method_29_code 294 = .ok (.aload_n 0, 1) := by decide +kernel
theorem d_Md_mayStand_295 : decode prog_14_method_29_code 295 = .ok (.iload_n 1, 1) := by decide +kernel
theorem d_Md_mayStand_296 : decode prog_14_method_29_code 296 = .ok (.iconst 4, 1) := by decide +kernel
theorem d_Md_mayStand_297 : decode prog_14_method_29_code 297 = .ok (.iadd, 1) := by decide +kernel
theorem d_Md_mayStand_298 : decode prog_14_method_29_code 298 = .ok (.invokevirtual 84, 3) := by decide +kernel
theorem d_Md_mayStand_301 : decode prog_14_method_29_code 301 = .ok (.bipush 97, 2) := by decide +kernel
theorem d_Md_mayStand_303 : decode prog_14_method_29_code 303 = .ok (.if_icmp .ge 15, 3) := by decide +kernel
theorem d_Md_mayStand_306 : decode prog_14_method_29_code 306 = .ok (.aload_n 0, 1) := by decide +kernel
theorem d_Md_mayStand_307 : decode prog_14_method_29_code 307 = .ok (.bipush 7, 2) := by decide +kernel
theorem d_Md_mayStand_309 : decode prog_14_method_29_code 309 = .ok (.iload_n 1, 1) := by decide +kernel
theorem d_Md_mayStand_310 : decode prog_14_method_29_code 310 = .ok (.iconst 4, 1) := by decide +kernel
theorem d_Md_mayStand_311 : decode prog_14_method_29_code 311 = .ok (.iadd, 1) := by decide +kernel
theorem d_Md_mayStand_312 : decode prog_14_method_29_code 312 = .ok (.invokevirtual 122, 3) := by decide +kernel
theorem d_Md_mayStand_315 : decode prog_14_method_29_code 315 = .ok (.ifCond .eq 7, 3) := by decide +kernel
theorem d_Md_mayStand_318 : decode prog_14_method_29_code 318 = .ok (.iconst 1, 1) := by decide +kernel
theorem d_Md_mayStand_319 : decode prog_14_method_29_code 319 = .ok (.goto 4, 3) := by decide +kernel
theorem d_Md_mayStand_322 : decode prog_14_method_29_code 322 = .ok (.iconst 0, 1) := by decide +kernel
theorem d_Md_mayStand_323 : decode prog_14_method_29_code 323 = .ok (.ireturn, 1) := by decide +kernel
set_option maxRecDepth 100000 in
set_option maxHeartbeats 4000000 in
theorem c_Md_mayStand {l0 : Launch} (hl : l0.stackTraces = false) (n : Nat) (ids : List Nat) {t : Nat} (ht : mm_ok ids t 1 12) (a0 : Int32) (σ : Mm) : kw_C l0 y_Md_mayStand (Cond.code y_Md_mayStand prog_14_method_29_code 5 (some .boolean) :: kw_Ts) rm_Md_mayStand kw_oi ids [] [.ref t, .int a0] σ (F_Md_mayStand n t a0 σ) := by
  refine kw_start (L0 := [some (.ref t), some (.int a0), none, none, none]) hl (by decide +kernel) (Nat.le_of_ble_eq_true rfl) rfl (fun Γ ad C Ce => ?_)
  unfold F_Md_mayStand
  refine kw_aload_n C d_Md_mayStand_0 rfl ?_
  refine kw_iload_n C d_Md_mayStand_1 rfl ?_
  refine kw_bipush (v := 73) C d_Md_mayStand_2 (by decide) ?_
  refine kw_bipush (v := 72) C d_Md_mayStand_4 (by decide) ?_
  refine kw_bipush (v := 68) C d_Md_mayStand_6 (by decide) ?_
  refine kw_bipush (v := 82) C d_Md_mayStand_8 (by decide) ?_
  refine kw_callVi (cl' := 0) (sl' := 0) (As := [.int a0, .int 73, .int 72, .int 68, .int 82]) C (c_Md_isType hl n ids ht a0 73 72 68 82 σ) mi_Md_155 v_Md_isType ⟨_, _, rfl⟩ ht ⟨Nat.le_of_ble_eq_true rfl, Nat.le_of_ble_eq_true rfl⟩ (Nat.le_of_ble_eq_true rfl) ⟨Nat.le_of_ble_eq_true rfl, Nat.le_of_ble_eq_true rfl⟩ ⟨rfl, rfl⟩ rfl d_Md_mayStand_10 (fun x1 σ2 => ?_)
  refine kw_istore_n (L' := [some (.ref t), some (.int a0), some (.int x1), none, none]) C d_Md_mayStand_13 (by decide) rfl ?_
  refine kw_iload_n C d_Md_mayStand_14 rfl ?_
  refine kw_iload_n C d_Md_mayStand_15 rfl ?_
  refine kw_bipush (v := 8) C d_Md_mayStand_16 (by decide) ?_
  refine kw_j (α := Int32 × Int32) (pcj := 26) (Lj := fun x4 => [some (.ref t), some (.int a0), some (.int x1), none, none]) (stj := fun x4 => [.int x4.2, .int x4.1]) (fun x4 σ5 => ?_) (fun k3 hk3 => ?_)
  · refine kw_j (α := Int32) (pcj := 34) (Lj := fun x7 => [some (.ref t), some (.int a0), some (.int x1), none, none]) (stj := fun x7 => [.int x7]) (fun x7 σ8 => ?_) (fun k6 hk6 => ?_)
    · refine kw_istore_n (L' := [some (.ref t), some (.int a0), some (.int x1), some (.int x7), none]) C d_Md_mayStand_34 (by decide) rfl ?_
      refine kw_iload_n C d_Md_mayStand_35 rfl ?_
      refine kw_istore (L' := [some (.ref t), some (.int a0), some (.int x1), some (.int x7), some (.int x1)]) C d_Md_mayStand_36 (by decide) rfl ?_
      refine kw_iload_n C d_Md_mayStand_38 rfl ?_
      refine kw_j (α := Int32 × Int32) (pcj := 275) (Lj := fun x10 => [some (.ref t), some (.int a0), none, some (.int x10.1), some (.int x10.2)]) (stj := fun x10 => []) (fun x10 σ11 => ?_) (fun k9 hk9 => ?_)
      · refine kw_iload_n C d_Md_mayStand_275 rfl ?_
        refine kw_if_ne (tgt := 289) C d_Md_mayStand_276 (by decide) ?_ ?_
        · refine kw_iload C d_Md_mayStand_289 rfl ?_
          refine kw_j (α := Int32) (pcj := 323) (Lj := fun x13 => [none, none, none, none, none]) (stj := fun x13 => [.int x13]) (fun x13 σ14 => ?_) (fun k12 hk12 => ?_)
          · exact kw_zret C Ce rfl (by simp) (fun _ _ => rfl) (Nat.le_of_ble_eq_true rfl) (Nat.le_of_ble_eq_true rfl) rfl d_Md_mayStand_323
          · refine kw_j (α := Unit) (pcj := 318) (Lj := fun x16 => [none, none, none, none, none]) (stj := fun x16 => []) (fun x16 σ17 => ?_) (fun k15 hk15 => ?_)
            · refine kw_iconst (v := 1) C d_Md_mayStand_318 (by decide) ?_
              refine kw_goto (tgt := 323) C d_Md_mayStand_319 (by decide) ?_
              exact kw_wk (hk12 1 σ17) ⟨Or.inl rfl, Or.inl rfl, Or.inl rfl, Or.inl rfl, Or.inl rfl, trivial⟩
            · refine kw_if_ne (tgt := 318) C d_Md_mayStand_291 (by decide) ?_ ?_
              · exact kw_wk (hk15 () σ11) ⟨Or.inl rfl, Or.inl rfl, Or.inl rfl, Or.inl rfl, Or.inl rfl, trivial⟩
              · refine kw_aload_n C d_Md_mayStand_294 rfl ?_
                refine kw_iload_n C d_Md_mayStand_295 rfl ?_
                refine kw_iconst (v := 4) C d_Md_mayStand_296 (by decide) ?_
                refine kw_iadd C d_Md_mayStand_297 ?_
                refine kw_callVi (cl' := 0) (sl' := 0) (As := [.int (a0 + 4)]) C (c_Md_at hl n ids ht (a0 + 4) σ11) mi_Md_84 v_Md_at ⟨_, _, rfl⟩ ht ⟨Nat.le_of_ble_eq_true rfl, Nat.le_of_ble_eq_true rfl⟩ (Nat.le_of_ble_eq_true rfl) ⟨Nat.le_of_ble_eq_true rfl, Nat.le_of_ble_eq_true rfl⟩ ⟨rfl, rfl⟩ rfl d_Md_mayStand_298 (fun x18 σ19 => ?_)
                refine kw_bipush (v := 97) C d_Md_mayStand_301 (by decide) ?_
                refine kw_icmp_ge (tgt := 318) C d_Md_mayStand_303 (by decide) ?_ ?_
                · exact kw_wk (hk15 () σ19) ⟨Or.inl rfl, Or.inl rfl, Or.inl rfl, Or.inl rfl, Or.inl rfl, trivial⟩
                · refine kw_aload_n C d_Md_mayStand_306 rfl ?_
                  refine kw_bipush (v := 7) C d_Md_mayStand_307 (by decide) ?_
                  refine kw_iload_n C d_Md_mayStand_309 rfl ?_
                  refine kw_iconst (v := 4) C d_Md_mayStand_310 (by decide) ?_
                  refine kw_iadd C d_Md_mayStand_311 ?_
                  refine kw_callVi (cl' := 0) (sl' := 0) (As := [.int 7, .int (a0 + 4)]) C (c_Md_flaw hl n ids ht 7 (a0 + 4) σ19) mi_Md_122 v_Md_flaw ⟨_, _, rfl⟩ ht ⟨Nat.le_of_ble_eq_true rfl, Nat.le_of_ble_eq_true rfl⟩ (Nat.le_of_ble_eq_true rfl) ⟨Nat.le_of_ble_eq_true rfl, Nat.le_of_ble_eq_true rfl⟩ ⟨rfl, rfl⟩ rfl d_Md_mayStand_312 (fun x20 σ21 => ?_)
                  refine kw_if_eq (tgt := 322) C d_Md_mayStand_315 (by decide) ?_ ?_
                  · refine kw_iconst (v := 0) C d_Md_mayStand_322 (by decide) ?_
                    exact kw_wk (hk12 0 σ21) ⟨Or.inl rfl, Or.inl rfl, Or.inl rfl, Or.inl rfl, Or.inl rfl, trivial⟩
                  · exact kw_wk (hk15 () σ21) ⟨Or.inl rfl, Or.inl rfl, Or.inl rfl, Or.inl rfl, Or.inl rfl, trivial⟩
        · refine kw_aload_n C d_Md_mayStand_279 rfl ?_
          refine kw_bipush (v := 6) C d_Md_mayStand_280 (by decide) ?_
          refine kw_iload_n C d_Md_mayStand_282 rfl ?_
          refine kw_iconst (v := 4) C d_Md_mayStand_283 (by decide) ?_
          refine kw_iadd C d_Md_mayStand_284 ?_
          refine kw_callVi (cl' := 0) (sl' := 0) (As := [.int 6, .int (a0 + 4)]) C (c_Md_flaw hl n ids ht 6 (a0 + 4) σ11) mi_Md_122 v_Md_flaw ⟨_, _, rfl⟩ ht ⟨Nat.le_of_ble_eq_true rfl, Nat.le_of_ble_eq_true rfl⟩ (Nat.le_of_ble_eq_true rfl) ⟨Nat.le_of_ble_eq_true rfl, Nat.le_of_ble_eq_true rfl⟩ ⟨rfl, rfl⟩ rfl d_Md_mayStand_285 (fun x22 σ23 => ?_)
          exact kw_zret C Ce rfl (by simp) (fun _ _ => rfl) (Nat.le_of_ble_eq_true rfl) (Nat.le_of_ble_eq_true rfl) rfl d_Md_mayStand_288
      · refine kw_j (α := Unit) (pcj := 106) (Lj := fun x25 => [some (.ref t), some (.int a0), none, some (.int x7), some (.int x1)]) (stj := fun x25 => []) (fun x25 σ26 => ?_) (fun k24 hk24 => ?_)
        · refine kw_iload_n C d_Md_mayStand_106 rfl ?_
          refine kw_j (α := Unit) (pcj := 184) (Lj := fun x28 => [some (.ref t), some (.int a0), none, some (.int x7), some (.int x1)]) (stj := fun x28 => []) (fun x28 σ29 => ?_) (fun k27 hk27 => ?_)
          · refine kw_iload_n C d_Md_mayStand_184 rfl ?_
            refine kw_j (α := Unit) (pcj := 239) (Lj := fun x31 => [some (.ref t), some (.int a0), none, some (.int x7), some (.int x1)]) (stj := fun x31 => []) (fun x31 σ32 => ?_) (fun k30 hk30 => ?_)
            · refine kw_iload_n C d_Md_mayStand_239 rfl ?_
              refine kw_if_eq (tgt := 275) C d_Md_mayStand_240 (by decide) ?_ ?_
              · exact kw_wk (hk9 (x7, x1) σ32) ⟨Or.inr rfl, Or.inr rfl, Or.inl rfl, Or.inr rfl, Or.inr rfl, trivial⟩
              · refine kw_aload_n C d_Md_mayStand_243 rfl ?_
                refine kw_iload_n C d_Md_mayStand_244 rfl ?_
                refine kw_bipush (v := 73) C d_Md_mayStand_245 (by decide) ?_
                refine kw_bipush (v := 69) C d_Md_mayStand_247 (by decide) ?_
                refine kw_bipush (v := 78) C d_Md_mayStand_249 (by decide) ?_
                refine kw_bipush (v := 68) C d_Md_mayStand_251 (by decide) ?_
                refine kw_callVi (cl' := 0) (sl' := 0) (As := [.int a0, .int 73, .int 69, .int 78, .int 68]) C (c_Md_isType hl n ids ht a0 73 69 78 68 σ32) mi_Md_155 v_Md_isType ⟨_, _, rfl⟩ ht ⟨Nat.le_of_ble_eq_true rfl, Nat.le_of_ble_eq_true rfl⟩ (Nat.le_of_ble_eq_true rfl) ⟨Nat.le_of_ble_eq_true rfl, Nat.le_of_ble_eq_true rfl⟩ ⟨rfl, rfl⟩ rfl d_Md_mayStand_253 (fun x33 σ34 => ?_)
                refine kw_if_eq (tgt := 275) C d_Md_mayStand_256 (by decide) ?_ ?_
                · exact kw_wk (hk9 (x7, x1) σ34) ⟨Or.inr rfl, Or.inr rfl, Or.inl rfl, Or.inr rfl, Or.inr rfl, trivial⟩
                · refine kw_iconst (v := 1) C d_Md_mayStand_259 (by decide) ?_
                  refine kw_istore (L' := [some (.ref t), some (.int a0), none, some (.int x7), some (.int 1)]) C d_Md_mayStand_260 (by decide) rfl ?_
                  refine kw_aload_n C d_Md_mayStand_262 rfl ?_
                  refine kw_getI C fi_Md_133 (Or.inl rfl) ht d_Md_mayStand_263 ?_
                  refine kw_j (α := Int32) (pcj := 274) (Lj := fun x36 => [some (.ref t), some (.int a0), none, none, some (.int 1)]) (stj := fun x36 => [.int x36]) (fun x36 σ37 => ?_) (fun k35 hk35 => ?_)
                  · refine kw_istore_n (L' := [some (.ref t), some (.int a0), none, some (.int x36), some (.int 1)]) C d_Md_mayStand_274 (by decide) rfl ?_
                    exact kw_wk (hk9 (x36, 1) σ37) ⟨Or.inr rfl, Or.inr rfl, Or.inl rfl, Or.inr rfl, Or.inr rfl, trivial⟩
                  · refine kw_if_le (tgt := 273) C d_Md_mayStand_266 (by decide) ?_ ?_
                    · refine kw_iconst (v := 0) C d_Md_mayStand_273 (by decide) ?_
                      exact kw_wk (hk35 0 σ34) ⟨Or.inr rfl, Or.inr rfl, Or.inl rfl, Or.inl rfl, Or.inr rfl, trivial⟩
                    · refine kw_iconst (v := 1) C d_Md_mayStand_269 (by decide) ?_
                      refine kw_goto (tgt := 274) C d_Md_mayStand_270 (by decide) ?_
                      exact kw_wk (hk35 1 σ34) ⟨Or.inr rfl, Or.inr rfl, Or.inl rfl, Or.inl rfl, Or.inr rfl, trivial⟩
            · refine kw_if_eq (tgt := 239) C d_Md_mayStand_185 (by decide) ?_ ?_
              · exact kw_wk (hk30 () σ29) ⟨Or.inr rfl, Or.inr rfl, Or.inl rfl, Or.inr rfl, Or.inr rfl, trivial⟩
              · refine kw_aload_n C d_Md_mayStand_188 rfl ?_
                refine kw_iload_n C d_Md_mayStand_189 rfl ?_
                refine kw_bipush (v := 73) C d_Md_mayStand_190 (by decide) ?_
                refine kw_bipush (v := 68) C d_Md_mayStand_192 (by decide) ?_
                refine kw_bipush (v := 65) C d_Md_mayStand_194 (by decide) ?_
                refine kw_bipush (v := 84) C d_Md_mayStand_196 (by decide) ?_
                refine kw_callVi (cl' := 0) (sl' := 0) (As := [.int a0, .int 73, .int 68, .int 65, .int 84]) C (c_Md_isType hl n ids ht a0 73 68 65 84 σ29) mi_Md_155 v_Md_isType ⟨_, _, rfl⟩ ht ⟨Nat.le_of_ble_eq_true rfl, Nat.le_of_ble_eq_true rfl⟩ (Nat.le_of_ble_eq_true rfl) ⟨Nat.le_of_ble_eq_true rfl, Nat.le_of_ble_eq_true rfl⟩ ⟨rfl, rfl⟩ rfl d_Md_mayStand_198 (fun x38 σ39 => ?_)
                refine kw_if_eq (tgt := 239) C d_Md_mayStand_201 (by decide) ?_ ?_
                · exact kw_wk (hk30 () σ39) ⟨Or.inr rfl, Or.inr rfl, Or.inl rfl, Or.inr rfl, Or.inr rfl, trivial⟩
                · refine kw_iconst (v := 1) C d_Md_mayStand_204 (by decide) ?_
                  refine kw_istore (L' := [some (.ref t), some (.int a0), none, some (.int x7), some (.int 1)]) C d_Md_mayStand_205 (by decide) rfl ?_
                  refine kw_aload_n C d_Md_mayStand_207 rfl ?_
                  refine kw_getI C fi_Md_133 (Or.inl rfl) ht d_Md_mayStand_208 ?_
                  refine kw_iconst (v := 2) C d_Md_mayStand_211 (by decide) ?_
                  refine kw_j (α := Int32) (pcj := 235) (Lj := fun x41 => [some (.ref t), some (.int a0), none, none, some (.int 1)]) (stj := fun x41 => [.int x41]) (fun x41 σ42 => ?_) (fun k40 hk40 => ?_)
                  · refine kw_istore_n (L' := [some (.ref t), some (.int a0), none, some (.int x41), some (.int 1)]) C d_Md_mayStand_235 (by decide) rfl ?_
                    refine kw_goto (tgt := 275) C d_Md_mayStand_236 (by decide) ?_
                    exact kw_wk (hk9 (x41, 1) σ42) ⟨Or.inr rfl, Or.inr rfl, Or.inl rfl, Or.inr rfl, Or.inr rfl, trivial⟩
                  · refine kw_j (α := Unit) (pcj := 234) (Lj := fun x44 => [some (.ref t), some (.int a0), none, none, some (.int 1)]) (stj := fun x44 => []) (fun x44 σ45 => ?_) (fun k43 hk43 => ?_)
                    · refine kw_iconst (v := 0) C d_Md_mayStand_234 (by decide) ?_
                      exact kw_wk (hk40 0 σ45) ⟨Or.inr rfl, Or.inr rfl, Or.inl rfl, Or.inl rfl, Or.inr rfl, trivial⟩
                    · refine kw_icmp_ge (tgt := 234) C d_Md_mayStand_212 (by decide) ?_ ?_
                      · exact kw_wk (hk43 () σ39) ⟨Or.inr rfl, Or.inr rfl, Or.inl rfl, Or.inl rfl, Or.inr rfl, trivial⟩
                      · refine kw_aload_n C d_Md_mayStand_215 rfl ?_
                        refine kw_getI C fi_Md_170 (Or.inl rfl) ht d_Md_mayStand_216 ?_
                        refine kw_iconst (v := 3) C d_Md_mayStand_219 (by decide) ?_
                        refine kw_j (α := Unit) (pcj := 230) (Lj := fun x47 => [some (.ref t), some (.int a0), none, none, some (.int 1)]) (stj := fun x47 => []) (fun x47 σ48 => ?_) (fun k46 hk46 => ?_)
                        · refine kw_iconst (v := 1) C d_Md_mayStand_230 (by decide) ?_
                          refine kw_goto (tgt := 235) C d_Md_mayStand_231 (by decide) ?_
                          exact kw_wk (hk40 1 σ48) ⟨Or.inr rfl, Or.inr rfl, Or.inl rfl, Or.inl rfl, Or.inr rfl, trivial⟩
                        · refine kw_icmp_ne (tgt := 230) C d_Md_mayStand_220 (by decide) ?_ ?_
                          · exact kw_wk (hk46 () σ39) ⟨Or.inr rfl, Or.inr rfl, Or.inl rfl, Or.inl rfl, Or.inr rfl, trivial⟩
                          · refine kw_aload_n C d_Md_mayStand_223 rfl ?_
                            refine kw_getI C fi_Md_126 (Or.inr rfl) ht d_Md_mayStand_224 ?_
                            refine kw_if_eq (tgt := 234) C d_Md_mayStand_227 (by decide) ?_ ?_
                            · exact kw_wk (hk43 () σ39) ⟨Or.inr rfl, Or.inr rfl, Or.inl rfl, Or.inl rfl, Or.inr rfl, trivial⟩
                            · exact kw_wk (hk46 () σ39) ⟨Or.inr rfl, Or.inr rfl, Or.inl rfl, Or.inl rfl, Or.inr rfl, trivial⟩
          · refine kw_if_eq (tgt := 184) C d_Md_mayStand_107 (by decide) ?_ ?_
            · exact kw_wk (hk27 () σ26) ⟨Or.inr rfl, Or.inr rfl, Or.inl rfl, Or.inr rfl, Or.inr rfl, trivial⟩
            · refine kw_aload_n C d_Md_mayStand_110 rfl ?_
              refine kw_iload_n C d_Md_mayStand_111 rfl ?_
              refine kw_bipush (v := 116) C d_Md_mayStand_112 (by decide) ?_
              refine kw_bipush (v := 82) C d_Md_mayStand_114 (by decide) ?_
              refine kw_bipush (v := 78) C d_Md_mayStand_116 (by decide) ?_
              refine kw_bipush (v := 83) C d_Md_mayStand_118 (by decide) ?_
              refine kw_callVi (cl' := 0) (sl' := 0) (As := [.int a0, .int 116, .int 82, .int 78, .int 83]) C (c_Md_isType hl n ids ht a0 116 82 78 83 σ26) mi_Md_155 v_Md_isType ⟨_, _, rfl⟩ ht ⟨Nat.le_of_ble_eq_true rfl, Nat.le_of_ble_eq_true rfl⟩ (Nat.le_of_ble_eq_true rfl) ⟨Nat.le_of_ble_eq_true rfl, Nat.le_of_ble_eq_true rfl⟩ ⟨rfl, rfl⟩ rfl d_Md_mayStand_120 (fun x49 σ50 => ?_)
              refine kw_if_eq (tgt := 184) C d_Md_mayStand_123 (by decide) ?_ ?_
              · exact kw_wk (hk27 () σ50) ⟨Or.inr rfl, Or.inr rfl, Or.inl rfl, Or.inr rfl, Or.inr rfl, trivial⟩
              · refine kw_iconst (v := 1) C d_Md_mayStand_126 (by decide) ?_
                refine kw_istore (L' := [some (.ref t), some (.int a0), none, some (.int x7), some (.int 1)]) C d_Md_mayStand_127 (by decide) rfl ?_
                refine kw_aload_n C d_Md_mayStand_129 rfl ?_
                refine kw_getI C fi_Md_130 (Or.inr rfl) ht d_Md_mayStand_130 ?_
                refine kw_j (α := Int32) (pcj := 180) (Lj := fun x52 => [some (.ref t), some (.int a0), none, none, some (.int 1)]) (stj := fun x52 => [.int x52]) (fun x52 σ53 => ?_) (fun k51 hk51 => ?_)
                · refine kw_istore_n (L' := [some (.ref t), some (.int a0), none, some (.int x52), some (.int 1)]) C d_Md_mayStand_180 (by decide) rfl ?_
                  refine kw_goto (tgt := 275) C d_Md_mayStand_181 (by decide) ?_
                  exact kw_wk (hk9 (x52, 1) σ53) ⟨Or.inr rfl, Or.inr rfl, Or.inl rfl, Or.inr rfl, Or.inr rfl, trivial⟩
                · refine kw_j (α := Unit) (pcj := 179) (Lj := fun x55 => [some (.ref t), some (.int a0), none, none, some (.int 1)]) (stj := fun x55 => []) (fun x55 σ56 => ?_) (fun k54 hk54 => ?_)
                  · refine kw_iconst (v := 0) C d_Md_mayStand_179 (by decide) ?_
                    exact kw_wk (hk51 0 σ56) ⟨Or.inr rfl, Or.inr rfl, Or.inl rfl, Or.inl rfl, Or.inr rfl, trivial⟩
                  · refine kw_if_ne (tgt := 179) C d_Md_mayStand_133 (by decide) ?_ ?_
                    · exact kw_wk (hk54 () σ50) ⟨Or.inr rfl, Or.inr rfl, Or.inl rfl, Or.inl rfl, Or.inr rfl, trivial⟩
                    · refine kw_aload_n C d_Md_mayStand_136 rfl ?_
                      refine kw_getI C fi_Md_133 (Or.inl rfl) ht d_Md_mayStand_137 ?_
                      refine kw_if_ne (tgt := 179) C d_Md_mayStand_140 (by decide) ?_ ?_
                      · exact kw_wk (hk54 () σ50) ⟨Or.inr rfl, Or.inr rfl, Or.inl rfl, Or.inl rfl, Or.inr rfl, trivial⟩
                      · refine kw_aload_n C d_Md_mayStand_143 rfl ?_
                        refine kw_getI C fi_Md_170 (Or.inl rfl) ht d_Md_mayStand_144 ?_
                        refine kw_iconst (v := 4) C d_Md_mayStand_147 (by decide) ?_
                        refine kw_icmp_eq (tgt := 179) C d_Md_mayStand_148 (by decide) ?_ ?_
                        · exact kw_wk (hk54 () σ50) ⟨Or.inr rfl, Or.inr rfl, Or.inl rfl, Or.inl rfl, Or.inr rfl, trivial⟩
                        · refine kw_aload_n C d_Md_mayStand_151 rfl ?_
                          refine kw_getI C fi_Md_170 (Or.inl rfl) ht d_Md_mayStand_152 ?_
                          refine kw_bipush (v := 6) C d_Md_mayStand_155 (by decide) ?_
                          refine kw_icmp_eq (tgt := 179) C d_Md_mayStand_157 (by decide) ?_ ?_
                          · exact kw_wk (hk54 () σ50) ⟨Or.inr rfl, Or.inr rfl, Or.inl rfl, Or.inl rfl, Or.inr rfl, trivial⟩
                          · refine kw_aload_n C d_Md_mayStand_160 rfl ?_
                            refine kw_getI C fi_Md_170 (Or.inl rfl) ht d_Md_mayStand_161 ?_
                            refine kw_iconst (v := 3) C d_Md_mayStand_164 (by decide) ?_
                            refine kw_j (α := Unit) (pcj := 175) (Lj := fun x58 => [some (.ref t), some (.int a0), none, none, some (.int 1)]) (stj := fun x58 => []) (fun x58 σ59 => ?_) (fun k57 hk57 => ?_)
                            · refine kw_iconst (v := 1) C d_Md_mayStand_175 (by decide) ?_
                              refine kw_goto (tgt := 180) C d_Md_mayStand_176 (by decide) ?_
                              exact kw_wk (hk51 1 σ59) ⟨Or.inr rfl, Or.inr rfl, Or.inl rfl, Or.inl rfl, Or.inr rfl, trivial⟩
                            · refine kw_icmp_ne (tgt := 175) C d_Md_mayStand_165 (by decide) ?_ ?_
                              · exact kw_wk (hk57 () σ50) ⟨Or.inr rfl, Or.inr rfl, Or.inl rfl, Or.inl rfl, Or.inr rfl, trivial⟩
                              · refine kw_aload_n C d_Md_mayStand_168 rfl ?_
                                refine kw_getI C fi_Md_126 (Or.inr rfl) ht d_Md_mayStand_169 ?_
                                refine kw_if_eq (tgt := 179) C d_Md_mayStand_172 (by decide) ?_ ?_
                                · exact kw_wk (hk54 () σ50) ⟨Or.inr rfl, Or.inr rfl, Or.inl rfl, Or.inl rfl, Or.inr rfl, trivial⟩
                                · exact kw_wk (hk57 () σ50) ⟨Or.inr rfl, Or.inr rfl, Or.inl rfl, Or.inl rfl, Or.inr rfl, trivial⟩
        · refine kw_if_eq (tgt := 106) C d_Md_mayStand_39 (by decide) ?_ ?_
          · exact kw_wk (hk24 () σ8) ⟨Or.inr rfl, Or.inr rfl, Or.inl rfl, Or.inr rfl, Or.inr rfl, trivial⟩
          · refine kw_aload_n C d_Md_mayStand_42 rfl ?_
            refine kw_iload_n C d_Md_mayStand_43 rfl ?_
            refine kw_bipush (v := 80) C d_Md_mayStand_44 (by decide) ?_
            refine kw_bipush (v := 76) C d_Md_mayStand_46 (by decide) ?_
            refine kw_bipush (v := 84) C d_Md_mayStand_48 (by decide) ?_
            refine kw_bipush (v := 69) C d_Md_mayStand_50 (by decide) ?_
            refine kw_callVi (cl' := 0) (sl' := 0) (As := [.int a0, .int 80, .int 76, .int 84, .int 69]) C (c_Md_isType hl n ids ht a0 80 76 84 69 σ8) mi_Md_155 v_Md_isType ⟨_, _, rfl⟩ ht ⟨Nat.le_of_ble_eq_true rfl, Nat.le_of_ble_eq_true rfl⟩ (Nat.le_of_ble_eq_true rfl) ⟨Nat.le_of_ble_eq_true rfl, Nat.le_of_ble_eq_true rfl⟩ ⟨rfl, rfl⟩ rfl d_Md_mayStand_52 (fun x60 σ61 => ?_)
            refine kw_if_eq (tgt := 106) C d_Md_mayStand_55 (by decide) ?_ ?_
            · exact kw_wk (hk24 () σ61) ⟨Or.inr rfl, Or.inr rfl, Or.inl rfl, Or.inr rfl, Or.inr rfl, trivial⟩
            · refine kw_iconst (v := 1) C d_Md_mayStand_58 (by decide) ?_
              refine kw_istore (L' := [some (.ref t), some (.int a0), some (.int x1), some (.int x7), some (.int 1)]) C d_Md_mayStand_59 (by decide) rfl ?_
              refine kw_aload_n C d_Md_mayStand_61 rfl ?_
              refine kw_getI C fi_Md_126 (Or.inr rfl) ht d_Md_mayStand_62 ?_
              refine kw_j (α := Int32) (pcj := 102) (Lj := fun x63 => [some (.ref t), some (.int a0), none, none, some (.int 1)]) (stj := fun x63 => [.int x63]) (fun x63 σ64 => ?_) (fun k62 hk62 => ?_)
              · refine kw_istore_n (L' := [some (.ref t), some (.int a0), none, some (.int x63), some (.int 1)]) C d_Md_mayStand_102 (by decide) rfl ?_
                refine kw_goto (tgt := 275) C d_Md_mayStand_103 (by decide) ?_
                exact kw_wk (hk9 (x63, 1) σ64) ⟨Or.inr rfl, Or.inr rfl, Or.inl rfl, Or.inr rfl, Or.inr rfl, trivial⟩
              · refine kw_j (α := Unit) (pcj := 101) (Lj := fun x66 => [some (.ref t), some (.int a0), none, none, some (.int 1)]) (stj := fun x66 => []) (fun x66 σ67 => ?_) (fun k65 hk65 => ?_)
                · refine kw_iconst (v := 0) C d_Md_mayStand_101 (by decide) ?_
                  exact kw_wk (hk62 0 σ67) ⟨Or.inr rfl, Or.inr rfl, Or.inl rfl, Or.inl rfl, Or.inr rfl, trivial⟩
                · refine kw_if_ne (tgt := 101) C d_Md_mayStand_65 (by decide) ?_ ?_
                  · exact kw_wk (hk65 () σ61) ⟨Or.inr rfl, Or.inr rfl, Or.inl rfl, Or.inl rfl, Or.inr rfl, trivial⟩
                  · refine kw_aload_n C d_Md_mayStand_68 rfl ?_
                    refine kw_getI C fi_Md_130 (Or.inr rfl) ht d_Md_mayStand_69 ?_
                    refine kw_if_ne (tgt := 101) C d_Md_mayStand_72 (by decide) ?_ ?_
                    · exact kw_wk (hk65 () σ61) ⟨Or.inr rfl, Or.inr rfl, Or.inl rfl, Or.inl rfl, Or.inr rfl, trivial⟩
                    · refine kw_aload_n C d_Md_mayStand_75 rfl ?_
                      refine kw_getI C fi_Md_133 (Or.inl rfl) ht d_Md_mayStand_76 ?_
                      refine kw_if_ne (tgt := 101) C d_Md_mayStand_79 (by decide) ?_ ?_
                      · exact kw_wk (hk65 () σ61) ⟨Or.inr rfl, Or.inr rfl, Or.inl rfl, Or.inl rfl, Or.inr rfl, trivial⟩
                      · refine kw_aload_n C d_Md_mayStand_82 rfl ?_
                        refine kw_getI C fi_Md_170 (Or.inl rfl) ht d_Md_mayStand_83 ?_
                        refine kw_if_eq (tgt := 101) C d_Md_mayStand_86 (by decide) ?_ ?_
                        · exact kw_wk (hk65 () σ61) ⟨Or.inr rfl, Or.inr rfl, Or.inl rfl, Or.inl rfl, Or.inr rfl, trivial⟩
                        · refine kw_aload_n C d_Md_mayStand_89 rfl ?_
                          refine kw_getI C fi_Md_170 (Or.inl rfl) ht d_Md_mayStand_90 ?_
                          refine kw_iconst (v := 4) C d_Md_mayStand_93 (by decide) ?_
                          refine kw_icmp_eq (tgt := 101) C d_Md_mayStand_94 (by decide) ?_ ?_
                          · exact kw_wk (hk65 () σ61) ⟨Or.inr rfl, Or.inr rfl, Or.inl rfl, Or.inl rfl, Or.inr rfl, trivial⟩
                          · refine kw_iconst (v := 1) C d_Md_mayStand_97 (by decide) ?_
                            refine kw_goto (tgt := 102) C d_Md_mayStand_98 (by decide) ?_
                            exact kw_wk (hk62 1 σ61) ⟨Or.inr rfl, Or.inr rfl, Or.inl rfl, Or.inl rfl, Or.inr rfl, trivial⟩
    · refine kw_icmp_ne (tgt := 33) C d_Md_mayStand_26 (by decide) ?_ ?_
      · refine kw_iconst (v := 0) C d_Md_mayStand_33 (by decide) ?_
        exact kw_wk (hk6 0 σ5) ⟨Or.inr rfl, Or.inr rfl, Or.inr rfl, Or.inl rfl, Or.inl rfl, trivial⟩
      · refine kw_iconst (v := 1) C d_Md_mayStand_29 (by decide) ?_
        refine kw_goto (tgt := 34) C d_Md_mayStand_30 (by decide) ?_
        exact kw_wk (hk6 1 σ5) ⟨Or.inr rfl, Or.inr rfl, Or.inr rfl, Or.inl rfl, Or.inl rfl, trivial⟩
  · refine kw_icmp_ne (tgt := 25) C d_Md_mayStand_18 (by decide) ?_ ?_
    · refine kw_iconst (v := 0) C d_Md_mayStand_25 (by decide) ?_
      exact kw_wk (hk3 (x1, 0) σ2) ⟨Or.inr rfl, Or.inr rfl, Or.inr rfl, Or.inl rfl, Or.inl rfl, trivial⟩
    · refine kw_iconst (v := 1) C d_Md_mayStand_21 (by decide) ?_
      refine kw_goto (tgt := 26) C d_Md_mayStand_22 (by decide) ?_
      exact kw_wk (hk3 (x1, 1) σ2) ⟨Or.inr rfl, Or.inr rfl, Or.inr rfl, Or.inl rfl, Or.inl rfl, trivial⟩
