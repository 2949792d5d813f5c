def y_Md_make : MethodName := ⟨"PictureFileModel", "make", "(IIIIZ)V"⟩
theorem w_Md_make : Cond.code y_Md_make prog_14_method_65_code 7 none ∈ kw_Ts := (kw_m7 (i := 84) (by decide +kernel) (by decide +kernel))
def y_Md_about : MethodName := ⟨"PictureFileModel", "about", "(I)I"⟩
theorem w_Md_about : Cond.code y_Md_about prog_14_method_66_code 2 (some .int) ∈ kw_Ts := (kw_m7 (i := 88) (by decide +kernel) (by decide +kernel))
def y_Md_pointFault : MethodName := ⟨"PictureFileModel", "pointFault", "(III)I"⟩
theorem w_Md_pointFault : Cond.code y_Md_pointFault prog_14_method_67_code 4 (some .int) ∈ kw_Ts := (kw_m7 (i := 96) (by decide +kernel) (by decide +kernel))
def y_Md_valueFault : MethodName := ⟨"PictureFileModel", "valueFault", "(I)I"⟩
theorem w_Md_valueFault : Cond.code y_Md_valueFault prog_14_method_68_code 2 (some .int) ∈ kw_Ts := (kw_m7 (i := 104) (by decide +kernel) (by decide +kernel))
theorem mi_Md_378 : kw_mi "PictureFileModel" 378 y_Md_pointFault prog_14_method_67_code 4 (some .int) 3 := ⟨(kw_m7 (i := 93) (by decide +kernel) (by decide +kernel)), w_Md_pointFault, in_Md, by decide +kernel, by decide +kernel, by decide +kernel⟩
theorem v_Md_pointFault : Cond.instanceMethod y_Md_pointFault ∈ kw_Ts ∧ Cond.selects y_Md_pointFault.cls y_Md_pointFault y_Md_pointFault ∈ kw_Ts := ⟨(kw_m7 (i := 95) (by decide +kernel) (by decide +kernel)), (kw_sel (i := 81) (by decide +kernel) (by decide +kernel))⟩
def y_Md_sample : MethodName := ⟨"PictureFileModel", "sample", "(III)I"⟩
theorem w_Md_sample : Cond.code y_Md_sample prog_14_method_69_code 4 (some .int) ∈ kw_Ts := (kw_m7 (i := 92) (by decide +kernel) (by decide +kernel))
theorem mi_Md_381 : kw_mi "PictureFileModel" 381 y_Md_valueFault prog_14_method_68_code 2 (some .int) 1 := ⟨(kw_m7 (i := 101) (by decide +kernel) (by decide +kernel)), w_Md_valueFault, in_Md, by decide +kernel, by decide +kernel, by decide +kernel⟩
theorem v_Md_valueFault : Cond.instanceMethod y_Md_valueFault ∈ kw_Ts ∧ Cond.selects y_Md_valueFault.cls y_Md_valueFault y_Md_valueFault ∈ kw_Ts := ⟨(kw_m7 (i := 103) (by decide +kernel) (by decide +kernel)), (kw_sel (i := 82) (by decide +kernel) (by decide +kernel))⟩
def y_Md_set : MethodName := ⟨"PictureFileModel", "set", "(IIII)V"⟩
theorem w_Md_set : Cond.code y_Md_set prog_14_method_70_code 5 none ∈ kw_Ts := (kw_m7 (i := 100) (by decide +kernel) (by decide +kernel))
def y_Md_fill : MethodName := ⟨"PictureFileModel", "fill", "(IIIIII)V"⟩
theorem w_Md_fill : Cond.code y_Md_fill prog_14_method_71_code 9 none ∈ kw_Ts := (kw_m7 (i := 108) (by decide +kernel) (by decide +kernel))
def y_Md_colour : MethodName := ⟨"PictureFileModel", "colour", "(III)I"⟩
theorem w_Md_colour : Cond.code y_Md_colour prog_14_method_72_code 4 (some .int) ∈ kw_Ts := (kw_m7 (i := 112) (by decide +kernel) (by decide +kernel))
def y_Md_ofColour : MethodName := ⟨"PictureFileModel", "ofColour", "(II)I"⟩
theorem w_Md_ofColour : Cond.code y_Md_ofColour prog_14_method_73_code 3 (some .int) ∈ kw_Ts := (kw_m7 (i := 116) (by decide +kernel) (by decide +kernel))
def y_Md_isSample : MethodName := ⟨"PictureFileModel", "isSample", "(I)Z"⟩
theorem w_Md_isSample : Cond.code y_Md_isSample prog_14_method_74_code 2 (some .boolean) ∈ kw_Ts := (kw_m7 (i := 124) (by decide +kernel) (by decide +kernel))
theorem mi_Md_384 : kw_mi "PictureFileModel" 384 y_Md_isSample prog_14_method_74_code 2 (some .boolean) 1 := ⟨(kw_m7 (i := 121) (by decide +kernel) (by decide +kernel)), w_Md_isSample, in_Md, by decide +kernel, by decide +kernel, by decide +kernel⟩
theorem v_Md_isSample : Cond.instanceMethod y_Md_isSample ∈ kw_Ts ∧ Cond.selects y_Md_isSample.cls y_Md_isSample y_Md_isSample ∈ kw_Ts := ⟨(kw_m7 (i := 123) (by decide +kernel) (by decide +kernel)), (kw_sel (i := 83) (by decide +kernel) (by decide +kernel))⟩
def y_Md_thin : MethodName := ⟨"PictureFileModel", "thin", "(III)I"⟩
theorem w_Md_thin : Cond.code y_Md_thin prog_14_method_75_code 5 (some .int) ∈ kw_Ts := (kw_m7 (i := 120) (by decide +kernel) (by decide +kernel))
def y_Md_ofThin : MethodName := ⟨"PictureFileModel", "ofThin", "(I)I"⟩
theorem w_Md_ofThin : Cond.code y_Md_ofThin prog_14_method_76_code 2 (some .int) ∈ kw_Ts := (kw_m7 (i := 128) (by decide +kernel) (by decide +kernel))
/-! Md_make -/
def rm_Md_make : Room := { frames := 1, cells := 0, slots := 0, locals := 22 }
def F_Md_make (n : Nat) (t : Nat) (a0 : Int32) (a1 : Int32) (a2 : Int32) (a3 : Int32) (a4 : Int32) (σ : Mm) : Option (Mm) :=
kf_j (α := Int32) (fun x2 σ3 =>
kf_let (pS σ3 (64 * t + 0) x2) fun σ4 =>
if (gS σ4 (64 * t + 0)) ≤ 0 then (
kf_z 1 <| kf_let (pS σ4 (64 * t + 5) 1) fun σ5 =>
kf_let (pS σ5 (64 * t + 6) a0) fun σ6 =>
kf_let (pS σ6 (64 * t + 7) a1) fun σ7 =>
kf_let (pS σ7 (64 * t + 8) a2) fun σ8 =>
kf_let (pS σ8 (64 * t + 9) a3) fun σ9 =>
kf_z a4 <| kf_let (pS σ9 (64 * t + 10) a4) fun σ10 =>
kf_l (α := Int32) n (fun k11 x12 σ13 =>
if 16384 ≤ x12 then (
kf_j (α := Int32) (fun x15 σ16 =>
kf_let (pS σ16 (64 * t + 13) x15) fun σ17 =>
Option.bind (gR σ17 (64 * t + 12)) fun o18 =>
kf_in 0 (mm_kd o18).2.2 <| kf_let (pB σ17 o18 (0 : Int32).toNatClampNeg 0) fun σ19 =>
Option.bind (gR σ19 (64 * t + 12)) fun o20 =>
kf_in 1 (mm_kd o20).2.2 <| kf_let (pB σ19 o20 (1 : Int32).toNatClampNeg 0) fun σ21 =>
Option.bind (gR σ21 (64 * t + 12)) fun o22 =>
kf_in 2 (mm_kd o22).2.2 <| kf_let (pB σ21 o22 (2 : Int32).toNatClampNeg 0) fun σ23 =>
kf_let (pS σ23 (64 * t + 15) 0) fun σ24 =>
some σ24) fun k14 =>
if a2 = 3 then (
k14 1 σ13) else (
k14 0 σ13)) else (
Option.bind (gR σ13 (64 * t + 11)) fun o25 =>
kf_in x12 (mm_kd o25).2.2 <| kf_let (pB σ13 o25 x12.toNatClampNeg 0) fun σ26 =>
kf_let (x12 + Int32.ofInt 1) fun x27 =>
k11 x27 σ26)) 0 σ10) else (
some σ4)) fun k1 =>
kf_j (α := Unit) (fun x29 σ30 =>
k1 1 σ30) fun k28 =>
if a0 < 1 then (
k28 () σ) else (
if 64 < a0 then (
k28 () σ) else (
if a1 < 1 then (
k28 () σ) else (
if 64 < a1 then (
k28 () σ) else (
kf_c2 (F_Md_mayBe n a2 a3 σ) fun x31 σ32 =>
if x31 = 0 then (
k28 () σ32) else (
k1 0 σ32)))))
theorem d_Md_make_0 : decode prog_14_method_65_code 0 = .ok (.aload_n 0, 1) := by decide +kernel
theorem d_Md_make_1 : decode prog_14_method_65_code 1 = .ok (.iload_n 1, 1) := by decide +kernel
theorem d_Md_make_2 : decode prog_14_method_65_code 2 = .ok (.iconst 1, 1) := by decide +kernel
theorem d_Md_make_3 : decode prog_14_method_65_code 3 = .ok (.if_icmp .lt 29, 3) := by decide +kernel
theorem d_Md_make_6 : decode prog_14_method_65_code 6 = .ok (.iload_n 1, 1) := by decide +kernel
theorem d_Md_make_7 : decode prog_14_method_65_code 7 = .ok (.bipush 64, 2) := by decide +kernel
theorem d_Md_make_9 : decode prog_14_method_65_code 9 = .ok (.if_icmp .gt 23, 3) := by decide +kernel
theorem d_Md_make_12 : decode prog_14_method_65_code 12 = .ok (.iload_n 2, 1) := by decide +kernel
theorem d_Md_make_13 : decode prog_14_method_65_code 13 = .ok (.iconst 1, 1) := by decide +kernel
theorem d_Md_make_14 : decode prog_14_method_65_code 14 = .ok (.if_icmp .lt 18, 3) := by decide +kernel
theorem d_Md_make_17 : decode prog_14_method_65_code 17 = .ok (.iload_n 2, 1) := by decide +kernel
theorem d_Md_make_18 : decode prog_14_method_65_code 18 = .ok (.bipush 64, 2) := by decide +kernel
theorem d_Md_make_20 : decode prog_14_method_65_code 20 = .ok (.if_icmp .gt 12, 3) := by decide +kernel
theorem d_Md_make_23 : decode prog_14_method_65_code 23 = .ok (.iload_n 3, 1) := by decide +kernel
theorem d_Md_make_24 : decode prog_14_method_65_code 24 = .ok (.iload 4, 2) := by decide +kernel
theorem d_Md_make_26 : decode prog_14_method_65_code 26 = .ok (.invokestatic 193, 3) := by decide +kernel
theorem d_Md_make_29 : decode prog_14_method_65_code 29 = .ok (.ifCond .ne 7, 3) := by decide +kernel
theorem d_Md_make_32 : decode prog_14_method_65_code 32 = .ok (.iconst 1, 1) := by decide +kernel
theorem d_Md_make_33 : decode prog_14_method_65_code 33 = .ok (.goto 4, 3) := by decide +kernel
theorem d_Md_make_36 : decode prog_14_method_65_code 36 = .ok (.iconst 0, 1) := by decide +kernel
theorem d_Md_make_37 : decode prog_14_method_65_code 37 = .ok (.putfield 67, 3) := by decide +kernel
theorem d_Md_make_40 : decode prog_14_method_65_code 40 = .ok (.aload_n 0, 1) := by decide +kernel
theorem d_Md_make_41 : decode prog_14_method_65_code 41 = .ok (.getfield 67, 3) := by decide +kernel
theorem d_Md_make_44 : decode prog_14_method_65_code 44 = .ok (.ifCond .le 4, 3) := by decide +kernel
theorem d_Md_make_47 : decode prog_14_method_65_code 47 = .ok (.return_, 1) := by decide +kernel
theorem d_Md_make_48 : decode prog_14_method_65_code 48 = .ok (.aload_n 0, 1) := by decide +kernel
theorem d_Md_make_49 : decode prog_14_method_65_code 49 = .ok (.iconst 1, 1) := by decide +kernel
theorem d_Md_make_50 : decode prog_14_method_65_code 50 = .ok (.putfield 354, 3) := by decide +kernel
theorem d_Md_make_53 : decode prog_14_method_65_code 53 = .ok (.aload_n 0, 1) := by decide +kernel
theorem d_Md_make_54 : decode prog_14_method_65_code 54 = .ok (.iload_n 1, 1) := by decide +kernel
theorem d_Md_make_55 : decode prog_14_method_65_code 55 = .ok (.putfield 357, 3) := by decide +kernel
theorem d_Md_make_58 : decode prog_14_method_65_code 58 = .ok (.aload_n 0, 1) := by decide +kernel
theorem d_Md_make_59 : decode prog_14_method_65_code 59 = .ok (.iload_n 2, 1) := by decide +kernel
theorem d_Md_make_60 : decode prog_14_method_65_code 60 = .ok (.putfield 360, 3) := by decide +kernel
theorem d_Md_make_63 : decode prog_14_method_65_code 63 = .ok (.aload_n 0, 1) := by decide +kernel
theorem d_Md_make_64 : decode prog_14_method_65_code 64 = .ok (.iload_n 3, 1) := by decide +kernel
theorem d_Md_make_65 : decode prog_14_method_65_code 65 = .ok (.putfield 363, 3) := by decide +kernel
theorem d_Md_make_68 : decode prog_14_method_65_code 68 = .ok (.aload_n 0, 1) := by decide +kernel
theorem d_Md_make_69 : decode prog_14_method_65_code 69 = .ok (.iload 4, 2) := by decide +kernel
theorem d_Md_make_71 : decode prog_14_method_65_code 71 = .ok (.putfield 366, 3) := by decide +kernel
theorem d_Md_make_74 : decode prog_14_method_65_code 74 = .ok (.aload_n 0, 1) := by decide +kernel
theorem d_Md_make_75 : decode prog_14_method_65_code 75 = .ok (.iload 5, 2) := by decide +kernel
theorem d_Md_make_77 : decode prog_14_method_65_code 77 = .ok (.putfield 369, 3) := by decide +kernel
theorem d_Md_make_80 : decode prog_14_method_65_code 80 = .ok (.iconst 0, 1) := by decide +kernel
theorem d_Md_make_81 : decode prog_14_method_65_code 81 = .ok (.istore 6, 2) := by decide +kernel
theorem d_Md_make_83 : decode prog_14_method_65_code 83 = .ok (.iload 6, 2) := by decide +kernel
theorem d_Md_make_85 : decode prog_14_method_65_code 85 = .ok (.sipush 16384, 3) := by decide +kernel
theorem d_Md_make_88 : decode prog_14_method_65_code 88 = .ok (.if_icmp .ge 17, 3) := by decide +kernel
theorem d_Md_make_91 : decode prog_14_method_65_code 91 = .ok (.aload_n 0, 1) := by decide +kernel
theorem d_Md_make_92 : decode prog_14_method_65_code 92 = .ok (.getfield 14, 3) := by decide +kernel
theorem d_Md_make_95 : decode prog_14_method_65_code 95 = .ok (.iload 6, 2) := by decide +kernel
theorem d_Md_make_97 : decode prog_14_method_65_code 97 = .ok (.iconst 0, 1) := by decide +kernel
theorem d_Md_make_98 : decode prog_14_method_65_code 98 = .ok (.iastore, 1) := by decide +kernel
theorem d_Md_make_99 : decode prog_14_method_65_code 99 = .ok (.iinc 6 1, 3) := by decide +kernel
theorem d_Md_make_102 : decode prog_14_method_65_code 102 = .ok (.goto (-19), 3) := by decide +kernel
theorem d_Md_make_105 : decode prog_14_method_65_code 105 = .ok (.aload_n 0, 1) := by decide +kernel
theorem d_Md_make_106 : decode prog_14_method_65_code 106 = .ok (.iload_n 3, 1) := by decide +kernel
theorem d_Md_make_107 : decode prog_14_method_65_code 107 = .ok (.iconst 3, 1) := by decide +kernel
theorem d_Md_make_108 : decode prog_14_method_65_code 108 = .ok (.if_icmp .ne 7, 3) := by decide +kernel
theorem d_Md_make_111 : decode prog_14_method_65_code 111 = .ok (.iconst 1, 1) := by decide +kernel
theorem d_Md_make_112 : decode prog_14_method_65_code 112 = .ok (.goto 4, 3) := by decide +kernel
theorem d_Md_make_115 : decode prog_14_method_65_code 115 = .ok (.iconst 0, 1) := by decide +kernel
theorem d_Md_make_116 : decode prog_14_method_65_code 116 = .ok (.putfield 372, 3) := by decide +kernel
theorem d_Md_make_119 : decode prog_14_method_65_code 119 = .ok (.aload_n 0, 1) := by decide +kernel
theorem d_Md_make_120 : decode prog_14_method_65_code 120 = .ok (.getfield 18, 3) := by decide +kernel
theorem d_Md_make_123 : decode prog_14_method_65_code 123 = .ok (.iconst 0, 1) := by decide +kernel
theorem d_Md_make_124 : decode prog_14_method_65_code 124 = .ok (.iconst 0, 1) := by decide +kernel
theorem d_Md_make_125 : decode prog_14_method_65_code 125 = .ok (.iastore, 1) := by decide +kernel
theorem d_Md_make_126 : decode prog_14_method_65_code 126 = .ok (.aload_n 0, 1) := by decide +kernel
theorem d_Md_make_127 : decode prog_14_method_65_code 127 = .ok (.getfield 18, 3) := by decide +kernel
theorem d_Md_make_130 : decode prog_14_method_65_code 130 = .ok (.iconst 1, 1) := by decide +kernel
theorem d_Md_make_131 : decode prog_14_method_65_code 131 = .ok (.iconst 0, 1) := by decide +kernel
theorem d_Md_make_132 : decode prog_14_method_65_code 132 = .ok (.iastore, 1) := by decide +kernel
theorem d_Md_make_133 : decode prog_14_method_65_code 133 = .ok (.aload_n 0, 1) := by decide +kernel
theorem d_Md_make_134 : decode prog_14_method_65_code 134 = .ok (.getfield 18, 3) := by decide +kernel
theorem d_Md_make_137 : decode prog_14_method_65_code 137 = .ok (.iconst 2, 1) := by decide +kernel
theorem d_Md_make_138 : decode prog_14_method_65_code 138 = .ok (.iconst 0, 1) := by decide +kernel
theorem d_Md_make_139 : decode prog_14_method_65_code 139 = .ok (.iastore, 1) := by decide +kernel
theorem d_Md_make_140 : decode prog_14_method_65_code 140 = .ok (.aload_n 0, 1) := by decide +kernel
theorem d_Md_make_141 : decode prog_14_method_65_code 141 = .ok (.iconst 0, 1) := by decide +kernel
theorem d_Md_make_142 : decode prog_14_method_65_code 142 = .ok (.putfield 375, 3) := by decide +kernel
theorem d_Md_make_145 : decode prog_14_method_65_code 145 = .ok (.return_, 1) := by decide +kernel
set_option maxRecDepth 100000 in
set_option maxHeartbeats 4000000 in
theorem c_Md_make {l0 : Launch} (hl : l0.stackTraces = false) (n : Nat) (ids : List Nat) {t : Nat} (ht : mm_ok ids t 1 12) (a0 : Int32) (a1 : Int32) (a2 : Int32) (a3 : Int32) (a4 : Int32) (σ : Mm) : kw_C l0 y_Md_make (Cond.code y_Md_make prog_14_method_65_code 7 none :: kw_Ts) rm_Md_make kw_ov ids [] [.ref t, .int a0, .int a1, .int a2, .int a3, .int a4] σ (F_Md_make n t a0 a1 a2 a3 a4 σ) := by
  refine kw_start (L0 := [some (.ref t), some (.int a0), some (.int a1), some (.int a2), some (.int a3), some (.int a4), none]) hl (by decide +kernel) (Nat.le_of_ble_eq_true rfl) rfl (fun Γ ad C Ce => ?_)
  unfold F_Md_make
  refine kw_aload_n C d_Md_make_0 rfl ?_
  refine kw_iload_n C d_Md_make_1 rfl ?_
  refine kw_iconst (v := 1) C d_Md_make_2 (by decide) ?_
  refine kw_j (α := Int32) (pcj := 37) (Lj := fun x2 => [some (.ref t), some (.int a0), some (.int a1), some (.int a2), some (.int a3), some (.int a4), none]) (stj := fun x2 => [.int x2, .ref t]) (fun x2 σ3 => ?_) (fun k1 hk1 => ?_)
  · refine kw_putI C fi_Md_67 rfl ht d_Md_make_37 (fun σ4 => ?_)
    refine kw_aload_n C d_Md_make_40 rfl ?_
    refine kw_getI C fi_Md_67 (Or.inl rfl) ht d_Md_make_41 ?_
    refine kw_if_le (tgt := 48) C d_Md_make_44 (by decide) ?_ ?_
    · refine kw_aload_n C d_Md_make_48 rfl ?_
      refine kw_iconst (v := 1) C d_Md_make_49 (by decide) ?_
      refine kw_putZ C fi_Md_354 rfl ht d_Md_make_50 (fun σ5 => ?_)
      refine kw_aload_n C d_Md_make_53 rfl ?_
      refine kw_iload_n C d_Md_make_54 rfl ?_
      refine kw_putI C fi_Md_357 rfl ht d_Md_make_55 (fun σ6 => ?_)
      refine kw_aload_n C d_Md_make_58 rfl ?_
      refine kw_iload_n C d_Md_make_59 rfl ?_
      refine kw_putI C fi_Md_360 rfl ht d_Md_make_60 (fun σ7 => ?_)
      refine kw_aload_n C d_Md_make_63 rfl ?_
      refine kw_iload_n C d_Md_make_64 rfl ?_
      refine kw_putI C fi_Md_363 rfl ht d_Md_make_65 (fun σ8 => ?_)
      refine kw_aload_n C d_Md_make_68 rfl ?_
      refine kw_iload C d_Md_make_69 rfl ?_
      refine kw_putI C fi_Md_366 rfl ht d_Md_make_71 (fun σ9 => ?_)
      refine kw_aload_n C d_Md_make_74 rfl ?_
      refine kw_iload C d_Md_make_75 rfl ?_
      refine kw_putZ C fi_Md_369 rfl ht d_Md_make_77 (fun σ10 => ?_)
      refine kw_iconst (v := 0) C d_Md_make_80 (by decide) ?_
      refine kw_istore (L' := [some (.ref t), some (.int a0), some (.int a1), some (.int a2), some (.int a3), some (.int a4), some (.int 0)]) C d_Md_make_81 (by decide) rfl ?_
      refine kw_wk (kw_l (α := Int32) (pc := 83) (Lj := fun x12 => [some (.ref t), none, none, some (.int a2), none, none, some (.int x12)]) (stj := fun x12 => []) (fun k11 hk11 x12 σ13 => ?_) n 0 σ10) ⟨Or.inr rfl, Or.inl rfl, Or.inl rfl, Or.inr rfl, Or.inl rfl, Or.inl rfl, Or.inr rfl, trivial⟩
      refine kw_iload C d_Md_make_83 rfl ?_
      refine kw_sipush (v := 16384) C d_Md_make_85 (by decide) ?_
      refine kw_icmp_ge (tgt := 105) C d_Md_make_88 (by decide) ?_ ?_
      · refine kw_aload_n C d_Md_make_105 rfl ?_
        refine kw_iload_n C d_Md_make_106 rfl ?_
        refine kw_iconst (v := 3) C d_Md_make_107 (by decide) ?_
        refine kw_j (α := Int32) (pcj := 116) (Lj := fun x15 => [some (.ref t), none, none, none, none, none, none]) (stj := fun x15 => [.int x15, .ref t]) (fun x15 σ16 => ?_) (fun k14 hk14 => ?_)
        · refine kw_putI C fi_Md_372 rfl ht d_Md_make_116 (fun σ17 => ?_)
          refine kw_aload_n C d_Md_make_119 rfl ?_
          refine kw_getR C fi_Md_18 rfl rfl ht d_Md_make_120 (fun o18 ho18 => ?_)
          refine kw_iconst (v := 0) C d_Md_make_123 (by decide) ?_
          refine kw_iconst (v := 0) C d_Md_make_124 (by decide) ?_
          refine kw_iast C ho18 d_Md_make_125 (fun σ19 => ?_)
          refine kw_aload_n C d_Md_make_126 rfl ?_
          refine kw_getR C fi_Md_18 rfl rfl ht d_Md_make_127 (fun o20 ho20 => ?_)
          refine kw_iconst (v := 1) C d_Md_make_130 (by decide) ?_
          refine kw_iconst (v := 0) C d_Md_make_131 (by decide) ?_
          refine kw_iast C ho20 d_Md_make_132 (fun σ21 => ?_)
          refine kw_aload_n C d_Md_make_133 rfl ?_
          refine kw_getR C fi_Md_18 rfl rfl ht d_Md_make_134 (fun o22 ho22 => ?_)
          refine kw_iconst (v := 2) C d_Md_make_137 (by decide) ?_
          refine kw_iconst (v := 0) C d_Md_make_138 (by decide) ?_
          refine kw_iast C ho22 d_Md_make_139 (fun σ23 => ?_)
          refine kw_aload_n C d_Md_make_140 rfl ?_
          refine kw_iconst (v := 0) C d_Md_make_141 (by decide) ?_
          refine kw_putI C fi_Md_375 rfl ht d_Md_make_142 (fun σ24 => ?_)
          exact kw_vret C Ce rfl (by simp) (fun _ _ => rfl) (Nat.le_of_ble_eq_true rfl) (Nat.le_of_ble_eq_true rfl) rfl d_Md_make_145
        · refine kw_icmp_ne (tgt := 115) C d_Md_make_108 (by decide) ?_ ?_
          · refine kw_iconst (v := 0) C d_Md_make_115 (by decide) ?_
            exact kw_wk (hk14 0 σ13) ⟨Or.inr rfl, Or.inl rfl, Or.inl rfl, Or.inl rfl, Or.inl rfl, Or.inl rfl, Or.inl rfl, trivial⟩
          · refine kw_iconst (v := 1) C d_Md_make_111 (by decide) ?_
            refine kw_goto (tgt := 116) C d_Md_make_112 (by decide) ?_
            exact kw_wk (hk14 1 σ13) ⟨Or.inr rfl, Or.inl rfl, Or.inl rfl, Or.inl rfl, Or.inl rfl, Or.inl rfl, Or.inl rfl, trivial⟩
      · refine kw_aload_n C d_Md_make_91 rfl ?_
        refine kw_getR C fi_Md_14 rfl rfl ht d_Md_make_92 (fun o25 ho25 => ?_)
        refine kw_iload C d_Md_make_95 rfl ?_
        refine kw_iconst (v := 0) C d_Md_make_97 (by decide) ?_
        refine kw_iast C ho25 d_Md_make_98 (fun σ26 => ?_)
        refine kw_iincL (L2 := fun x27 => [some (.ref t), none, none, some (.int a2), none, none, some (.int x27)]) C d_Md_make_99 (by decide) rfl (fun _ => rfl) (fun x27 => ?_)
        refine kw_goto (tgt := 83) C d_Md_make_102 (by decide) ?_
        exact kw_wk (hk11 x27 σ26) ⟨Or.inr rfl, Or.inl rfl, Or.inl rfl, Or.inr rfl, Or.inl rfl, Or.inl rfl, Or.inr rfl, trivial⟩
    · exact kw_vret C Ce rfl (by simp) (fun _ _ => rfl) (Nat.le_of_ble_eq_true rfl) (Nat.le_of_ble_eq_true rfl) rfl d_Md_make_47
  · refine kw_j (α := Unit) (pcj := 32) (Lj := fun x29 => [some (.ref t), some (.int a0), some (.int a1), some (.int a2), some (.int a3), some (.int a4), none]) (stj := fun x29 => [.ref t]) (fun x29 σ30 => ?_) (fun k28 hk28 => ?_)
    · refine kw_iconst (v := 1) C d_Md_make_32 (by decide) ?_
      refine kw_goto (tgt := 37) C d_Md_make_33 (by decide) ?_
      exact kw_wk (hk1 1 σ30) ⟨Or.inr rfl, Or.inr rfl, Or.inr rfl, Or.inr rfl, Or.inr rfl, Or.inr rfl, Or.inl rfl, trivial⟩
    · refine kw_icmp_lt (tgt := 32) C d_Md_make_3 (by decide) ?_ ?_
      · exact kw_wk (hk28 () σ) ⟨Or.inr rfl, Or.inr rfl, Or.inr rfl, Or.inr rfl, Or.inr rfl, Or.inr rfl, Or.inl rfl, trivial⟩
      · refine kw_iload_n C d_Md_make_6 rfl ?_
        refine kw_bipush (v := 64) C d_Md_make_7 (by decide) ?_
        refine kw_icmp_gt (tgt := 32) C d_Md_make_9 (by decide) ?_ ?_
        · exact kw_wk (hk28 () σ) ⟨Or.inr rfl, Or.inr rfl, Or.inr rfl, Or.inr rfl, Or.inr rfl, Or.inr rfl, Or.inl rfl, trivial⟩
        · refine kw_iload_n C d_Md_make_12 rfl ?_
          refine kw_iconst (v := 1) C d_Md_make_13 (by decide) ?_
          refine kw_icmp_lt (tgt := 32) C d_Md_make_14 (by decide) ?_ ?_
          · exact kw_wk (hk28 () σ) ⟨Or.inr rfl, Or.inr rfl, Or.inr rfl, Or.inr rfl, Or.inr rfl, Or.inr rfl, Or.inl rfl, trivial⟩
          · refine kw_iload_n C d_Md_make_17 rfl ?_
            refine kw_bipush (v := 64) C d_Md_make_18 (by decide) ?_
            refine kw_icmp_gt (tgt := 32) C d_Md_make_20 (by decide) ?_ ?_
            · exact kw_wk (hk28 () σ) ⟨Or.inr rfl, Or.inr rfl, Or.inr rfl, Or.inr rfl, Or.inr rfl, Or.inr rfl, Or.inl rfl, trivial⟩
            · refine kw_iload_n C d_Md_make_23 rfl ?_
              refine kw_iload C d_Md_make_24 rfl ?_
              refine kw_callSi (cl' := 0) (sl' := 0) (As := [.int a2, .int a3]) C (c_Md_mayBe hl n ids  a2 a3 σ) mi_Md_193 s_Md_mayBe ⟨Nat.le_of_ble_eq_true rfl, Nat.le_of_ble_eq_true rfl⟩ (Nat.le_of_ble_eq_true rfl) ⟨Nat.le_of_ble_eq_true rfl, Nat.le_of_ble_eq_true rfl⟩ ⟨rfl, rfl⟩ rfl d_Md_make_26 (fun x31 σ32 => ?_)
              refine kw_if_ne (tgt := 36) C d_Md_make_29 (by decide) ?_ ?_
              · refine kw_iconst (v := 0) C d_Md_make_36 (by decide) ?_
                exact kw_wk (hk1 0 σ32) ⟨Or.inr rfl, Or.inr rfl, Or.inr rfl, Or.inr rfl, Or.inr rfl, Or.inr rfl, Or.inl rfl, trivial⟩
              · exact kw_wk (hk28 () σ32) ⟨Or.inr rfl, Or.inr rfl, Or.inr rfl, Or.inr rfl, Or.inr rfl, Or.inr rfl, Or.inl rfl, trivial⟩
/-! Md_about -/
def rm_Md_about : Room := { frames := 2, cells := 0, slots := 0, locals := 51 }
def F_Md_about (n : Nat) (t : Nat) (a0 : Int32) (σ : Mm) : Option (Int32 × Mm) :=
kf_j (α := Int32) (fun x2 σ3 =>
kf_let (pS σ3 (64 * t + 0) x2) fun σ4 =>
if (gS σ4 (64 * t + 0)) ≤ 0 then (
Option.bind (F_Md_rows n t (gS σ4 (64 * t + 6)) (gS σ4 (64 * t + 7)) (gS σ4 (64 * t + 8)) (gS σ4 (64 * t + 9)) (gS σ4 (64 * t + 10)) σ4) fun σ5 =>
kf_j (α := Int32) (fun x7 σ8 =>
some (x7, σ8)) fun k6 =>
if a0 = 0 then (
k6 (gS σ5 (64 * t + 6)) σ5) else (
if a0 = 1 then (
k6 (gS σ5 (64 * t + 7)) σ5) else (
if a0 = 2 then (
k6 (gS σ5 (64 * t + 8)) σ5) else (
if a0 = 3 then (
k6 (gS σ5 (64 * t + 9)) σ5) else (
if a0 = 4 then (
if (gS σ5 (64 * t + 10)) = 0 then (
k6 0 σ5) else (
k6 1 σ5)) else (
if a0 = 5 then (
k6 (gS σ5 (64 * t + 13)) σ5) else (
if a0 = 6 then (
k6 (gS σ5 (64 * t + 15)) σ5) else (
if a0 = 7 then (
k6 (gS σ5 (64 * t + 38)) σ5) else (
k6 (gS σ5 (64 * t + 39)) σ5))))))))) else (
some (0, σ4))) fun k1 =>
if (gS σ (64 * t + 5)) = 0 then (
k1 1 σ) else (
kf_j (α := Unit) (fun x10 σ11 =>
k1 2 σ11) fun k9 =>
if a0 < 0 then (
k9 () σ) else (
if a0 ≤ 8 then (
k1 0 σ) else (
k9 () σ)))
theorem d_Md_about_0 : decode prog_14_method_66_code 0 = .ok (.aload_n 0, 1) := by decide +kernel
theorem d_Md_about_1 : decode prog_14_method_66_code 1 = .ok (.aload_n 0, 1) := by decide +kernel
theorem d_Md_about_2 : decode prog_14_method_66_code 2 = .ok (.getfield 354, 3) := by decide +kernel
theorem d_Md_about_5 : decode prog_14_method_66_code 5 = .ok (.ifCond .ne 7, 3) := by decide +kernel
theorem d_Md_about_8 : decode prog_14_method_66_code 8 = .ok (.iconst 1, 1) := by decide +kernel
theorem d_Md_about_9 : decode prog_14_method_66_code 9 = .ok (.goto 18, 3) := by decide +kernel
theorem d_Md_about_12 : decode prog_14_method_66_code 12 = .ok (.iload_n 1, 1) := by decide +kernel
theorem d_Md_about_13 : decode prog_14_method_66_code 13 = .ok (.ifCond .lt 9, 3) := by decide +kernel
theorem d_Md_about_16 : decode prog_14_method_66_code 16 = .ok (.iload_n 1, 1) := by decide +kernel
theorem d_Md_about_17 : decode prog_14_method_66_code 17 = .ok (.bipush 8, 2) := by decide +kernel
theorem d_Md_about_19 : decode prog_14_method_66_code 19 = .ok (.if_icmp .le 7, 3) := by decide +kernel
theorem d_Md_about_22 : decode prog_14_method_66_code 22 = .ok (.iconst 2, 1) := by decide +kernel
theorem d_Md_about_23 : decode prog_14_method_66_code 23 = .ok (.goto 4, 3) := by decide +kernel
theorem d_Md_about_26 : decode prog_14_method_66_code 26 = .ok (.iconst 0, 1) := by decide +kernel
theorem d_Md_about_27 : decode prog_14_method_66_code 27 = .ok (.putfield 67, 3) := by decide +kernel
theorem d_Md_about_30 : decode prog_14_method_66_code 30 = .ok (.aload_n 0, 1) := by decide +kernel
theorem d_Md_about_31 : decode prog_14_method_66_code 31 = .ok (.getfield 67, 3) := by decide +kernel
theorem d_Md_about_34 : decode prog_14_method_66_code 34 = .ok (.ifCond .le 5, 3) := by decide +kernel
theorem d_Md_about_37 : decode prog_14_method_66_code 37 = .ok (.iconst 0, 1) := by decide +kernel
theorem d_Md_about_38 : decode prog_14_method_66_code 38 = .ok (.ireturn, 1) := by decide +kernel
theorem d_Md_about_39 : decode prog_14_method_66_code 39 = .ok (.aload_n 0, 1) := by decide +kernel
theorem d_Md_about_40 : decode prog_14_method_66_code 40 = .ok (.aload_n 0, 1) := by decide +kernel
theorem d_Md_about_41 : decode prog_14_method_66_code 41 = .ok (.getfield 357, 3) := by decide +kernel
theorem d_Md_about_44 : decode prog_14_method_66_code 44 = .ok (.aload_n 0, 1) := by decide +kernel
theorem d_Md_about_45 : decode prog_14_method_66_code 45 = .ok (.getfield 360, 3) := by decide +kernel
theorem d_Md_about_48 : decode prog_14_method_66_code 48 = .ok (.aload_n 0, 1) := by decide +kernel
theorem d_Md_about_49 : decode prog_14_method_66_code 49 = .ok (.getfield 363, 3) := by decide +kernel
theorem d_Md_about_52 : decode prog_14_method_66_code 52 = .ok (.aload_n 0, 1) := by decide +kernel
theorem d_Md_about_53 : decode prog_14_method_66_code 53 = .ok (.getfield 366, 3) := by decide +kernel
theorem d_Md_about_56 : decode prog_14_method_66_code 56 = .ok (.aload_n 0, 1) := by decide +kernel
theorem d_Md_about_57 : decode prog_14_method_66_code 57 = .ok (.getfield 369, 3) := by decide +kernel
theorem d_Md_about_60 : decode prog_14_method_66_code 60 = .ok (.invokevirtual 335, 3) := by decide +kernel
theorem d_Md_about_63 : decode prog_14_method_66_code 63 = .ok (.iload_n 1, 1) := by decide +kernel
theorem d_Md_about_64 : decode prog_14_method_66_code 64 = .ok (.ifCond .ne 10, 3) := by decide +kernel
theorem d_Md_about_67 : decode prog_14_method_66_code 67 = .ok (.aload_n 0, 1) := by decide +kernel
theorem d_Md_about_68 : decode prog_14_method_66_code 68 = .ok (.getfield 357, 3) := by decide +kernel
theorem d_Md_about_71 : decode prog_14_method_66_code 71 = .ok (.goto 101, 3) := by decide +kernel
theorem d_Md_about_74 : decode prog_14_method_66_code 74 = .ok (.iload_n 1, 1) := by decide +kernel
theorem d_Md_about_75 : decode prog_14_method_66_code 75 = .ok (.iconst 1, 1) := by decide +kernel
theorem d_Md_about_76 : decode prog_14_method_66_code 76 = .ok (.if_icmp .ne 10, 3) := by decide +kernel
theorem d_Md_about_79 : decode prog_14_method_66_code 79 = .ok (.aload_n 0, 1) := by decide +kernel
theorem d_Md_about_80 : decode prog_14_method_66_code 80 = .ok (.getfield 360, 3) := by decide +kernel
theorem d_Md_about_83 : decode prog_14_method_66_code 83 = .ok (.goto 89, 3) := by decide +kernel
theorem d_Md_about_86 : decode prog_14_method_66_code 86 = .ok (.iload_n 1, 1) := by decide +kernel
theorem d_Md_about_87 : decode prog_14_method_66_code 87 = .ok (.iconst 2, 1) := by decide +kernel
theorem d_Md_about_88 : decode prog_14_method_66_code 88 = .ok (.if_icmp .ne 10, 3) := by decide +kernel
theorem d_Md_about_91 : decode prog_14_method_66_code 91 = .ok (.aload_n 0, 1) := by decide +kernel
theorem d_Md_about_92 : decode prog_14_method_66_code 92 = .ok (.getfield 363, 3) := by decide +kernel
theorem d_Md_about_95 : decode prog_14_method_66_code 95 = .ok (.goto 77, 3) := by decide +kernel
theorem d_Md_about_98 : decode prog_14_method_66_code 98 = .ok (.iload_n 1, 1) := by decide +kernel
theorem d_Md_about_99 : decode prog_14_method_66_code 99 = .ok (.iconst 3, 1) := by decide +kernel
theorem d_Md_about_100 : decode prog_14_method_66_code 100 = .ok (.if_icmp .ne 10, 3) := by decide +kernel
theorem d_Md_about_103 : decode prog_14_method_66_code 103 = .ok (.aload_n 0, 1) := by decide +kernel
theorem d_Md_about_104 : decode prog_14_method_66_code 104 = .ok (.getfield 366, 3) := by decide +kernel
theorem d_Md_about_107 : decode prog_14_method_66_code 107 = .ok (.goto 65, 3) := by decide +kernel
theorem d_Md_about_110 : decode prog_14_method_66_code 110 = .ok (.iload_n 1, 1) := by decide +kernel
theorem d_Md_about_111 : decode prog_14_method_66_code 111 = .ok (.iconst 4, 1) := by decide +kernel
theorem d_Md_about_112 : decode prog_14_method_66_code 112 = .ok (.if_icmp .ne 18, 3) := by decide +kernel
theorem d_Md_about_115 : decode prog_14_method_66_code 115 = .ok (.aload_n 0, 1) := by decide +kernel
theorem d_Md_about_116 : decode prog_14_method_66_code 116 = .ok (.getfield 369, 3) := by decide +kernel
theorem d_Md_about_119 : decode prog_14_method_66_code 119 = .ok (.ifCond .eq 7, 3) := by decide +kernel
theorem d_Md_about_122 : decode prog_14_method_66_code 122 = .ok (.iconst 1, 1) := by decide +kernel
theorem d_Md_about_123 : decode prog_14_method_66_code 123 = .ok (.goto 49, 3) := by decide +kernel
theorem d_Md_about_126 : decode prog_14_method_66_code 126 = .ok (.iconst 0, 1) := by decide +kernel
theorem d_Md_about_127 : decode prog_14_method_66_code 127 = .ok (.goto 45, 3) := by decide +kernel
theorem d_Md_about_130 : decode prog_14_method_66_code 130 = .ok (.iload_n 1, 1) := by decide +kernel
theorem d_Md_about_131 : decode prog_14_method_66_code 131 = .ok (.iconst 5, 1) := by decide +kernel
theorem d_Md_about_132 : decode prog_14_method_66_code 132 = .ok (.if_icmp .ne 10, 3) := by decide +kernel
theorem d_Md_about_135 : decode prog_14_method_66_code 135 = .ok (.aload_n 0, 1) := by decide +kernel
theorem d_Md_about_136 : decode prog_14_method_66_code 136 = .ok (.getfield 372, 3) := by decide +kernel
theorem d_Md_about_139 : decode prog_14_method_66_code 139 = .ok (.goto 33, 3) := by decide +kernel
theorem d_Md_about_142 : decode prog_14_method_66_code 142 = .ok (.iload_n 1, 1) := by decide +kernel
theorem d_Md_about_143 : decode prog_14_method_66_code 143 = .ok (.bipush 6, 2) := by decide +kernel
theorem d_Md_about_145 : decode prog_14_method_66_code 145 = .ok (.if_icmp .ne 10, 3) := by decide +kernel
theorem d_Md_about_148 : decode prog_14_method_66_code 148 = .ok (.aload_n 0, 1) := by decide +kernel
theorem d_Md_about_149 : decode prog_14_method_66_code 149 = .ok (.getfield 375, 3) := by decide +kernel
theorem d_Md_about_152 : decode prog_14_method_66_code 152 = .ok (.goto 20, 3) := by decide +kernel
theorem d_Md_about_155 : decode prog_14_method_66_code 155 = .ok (.iload_n 1, 1) := by decide +kernel
theorem d_Md_about_156 : decode prog_14_method_66_code 156 = .ok (.bipush 7, 2) := by decide +kernel
theorem d_Md_about_158 : decode prog_14_method_66_code 158 = .ok (.if_icmp .ne 10, 3) := by decide +kernel
theorem d_Md_about_161 : decode prog_14_method_66_code 161 = .ok (.aload_n 0, 1) := by decide +kernel
theorem d_Md_about_162 : decode prog_14_method_66_code 162 = .ok (.getfield 97, 3) := by decide +kernel
theorem d_Md_about_165 : decode prog_14_method_66_code 165 = .ok (.goto 7, 3) := by decide +kernel
theorem d_Md_about_168 : decode prog_14_method_66_code 168 = .ok (.aload_n 0, 1) := by decide +kernel
theorem d_Md_about_169 : decode prog_14_method_66_code 169 = .ok (.getfield 100, 3) := by decide +kernel
theorem d_Md_about_172 : decode prog_14_method_66_code 172 = .ok (.ireturn, 1) := by decide +kernel
set_option maxRecDepth 100000 in
set_option maxHeartbeats 4000000 in
theorem c_Md_about {l0 : Launch} (hl : l0.stackTraces = false) (n : Nat) (ids : List Nat) {t : Nat} (ht : mm_ok ids t 1 12) (a0 : Int32) (σ : Mm) : kw_C l0 y_Md_about (Cond.code y_Md_about prog_14_method_66_code 2 (some .int) :: kw_Ts) rm_Md_about kw_oi ids [] [.ref t, .int a0] σ (F_Md_about n t a0 σ) := by
  refine kw_start (L0 := [some (.ref t), some (.int a0)]) hl (by decide +kernel) (Nat.le_of_ble_eq_true rfl) rfl (fun Γ ad C Ce => ?_)
  unfold F_Md_about
  refine kw_aload_n C d_Md_about_0 rfl ?_
  refine kw_aload_n C d_Md_about_1 rfl ?_
  refine kw_getI C fi_Md_354 (Or.inr rfl) ht d_Md_about_2 ?_
  refine kw_j (α := Int32) (pcj := 27) (Lj := fun x2 => [some (.ref t), some (.int a0)]) (stj := fun x2 => [.int x2, .ref t]) (fun x2 σ3 => ?_) (fun k1 hk1 => ?_)
  · refine kw_putI C fi_Md_67 rfl ht d_Md_about_27 (fun σ4 => ?_)
    refine kw_aload_n C d_Md_about_30 rfl ?_
    refine kw_getI C fi_Md_67 (Or.inl rfl) ht d_Md_about_31 ?_
    refine kw_if_le (tgt := 39) C d_Md_about_34 (by decide) ?_ ?_
    · refine kw_aload_n C d_Md_about_39 rfl ?_
      refine kw_aload_n C d_Md_about_40 rfl ?_
      refine kw_getI C fi_Md_357 (Or.inl rfl) ht d_Md_about_41 ?_
      refine kw_aload_n C d_Md_about_44 rfl ?_
      refine kw_getI C fi_Md_360 (Or.inl rfl) ht d_Md_about_45 ?_
      refine kw_aload_n C d_Md_about_48 rfl ?_
      refine kw_getI C fi_Md_363 (Or.inl rfl) ht d_Md_about_49 ?_
      refine kw_aload_n C d_Md_about_52 rfl ?_
      refine kw_getI C fi_Md_366 (Or.inl rfl) ht d_Md_about_53 ?_
      refine kw_aload_n C d_Md_about_56 rfl ?_
      refine kw_getI C fi_Md_369 (Or.inr rfl) ht d_Md_about_57 ?_
      refine kw_callVv (cl' := 0) (sl' := 0) (As := [.int (gS σ4 (64 * t + 6)), .int (gS σ4 (64 * t + 7)), .int (gS σ4 (64 * t + 8)), .int (gS σ4 (64 * t + 9)), .int (gS σ4 (64 * t + 10))]) C (c_Md_rows hl n ids ht (gS σ4 (64 * t + 6)) (gS σ4 (64 * t + 7)) (gS σ4 (64 * t + 8)) (gS σ4 (64 * t + 9)) (gS σ4 (64 * t + 10)) σ4) mi_Md_335 v_Md_rows ⟨_, _, rfl⟩ ht ⟨Nat.le_of_ble_eq_true rfl, Nat.le_of_ble_eq_true rfl⟩ (Nat.le_of_ble_eq_true rfl) ⟨Nat.le_of_ble_eq_true rfl, Nat.le_of_ble_eq_true rfl⟩ ⟨rfl, rfl⟩ rfl d_Md_about_60 (fun σ5 => ?_)
      refine kw_iload_n C d_Md_about_63 rfl ?_
      refine kw_j (α := Int32) (pcj := 172) (Lj := fun x7 => [none, none]) (stj := fun x7 => [.int x7]) (fun x7 σ8 => ?_) (fun k6 hk6 => ?_)
      · exact kw_iret C Ce rfl (by simp) (fun _ _ => rfl) (Nat.le_of_ble_eq_true rfl) (Nat.le_of_ble_eq_true rfl) rfl d_Md_about_172
      · refine kw_if_ne (tgt := 74) C d_Md_about_64 (by decide) ?_ ?_
        · refine kw_iload_n C d_Md_about_74 rfl ?_
          refine kw_iconst (v := 1) C d_Md_about_75 (by decide) ?_
          refine kw_icmp_ne (tgt := 86) C d_Md_about_76 (by decide) ?_ ?_
          · refine kw_iload_n C d_Md_about_86 rfl ?_
            refine kw_iconst (v := 2) C d_Md_about_87 (by decide) ?_
            refine kw_icmp_ne (tgt := 98) C d_Md_about_88 (by decide) ?_ ?_
            · refine kw_iload_n C d_Md_about_98 rfl ?_
              refine kw_iconst (v := 3) C d_Md_about_99 (by decide) ?_
              refine kw_icmp_ne (tgt := 110) C d_Md_about_100 (by decide) ?_ ?_
              · refine kw_iload_n C d_Md_about_110 rfl ?_
                refine kw_iconst (v := 4) C d_Md_about_111 (by decide) ?_
                refine kw_icmp_ne (tgt := 130) C d_Md_about_112 (by decide) ?_ ?_
                · refine kw_iload_n C d_Md_about_130 rfl ?_
                  refine kw_iconst (v := 5) C d_Md_about_131 (by decide) ?_
                  refine kw_icmp_ne (tgt := 142) C d_Md_about_132 (by decide) ?_ ?_
                  · refine kw_iload_n C d_Md_about_142 rfl ?_
                    refine kw_bipush (v := 6) C d_Md_about_143 (by decide) ?_
                    refine kw_icmp_ne (tgt := 155) C d_Md_about_145 (by decide) ?_ ?_
                    · refine kw_iload_n C d_Md_about_155 rfl ?_
                      refine kw_bipush (v := 7) C d_Md_about_156 (by decide) ?_
                      refine kw_icmp_ne (tgt := 168) C d_Md_about_158 (by decide) ?_ ?_
                      · refine kw_aload_n C d_Md_about_168 rfl ?_
                        refine kw_getI C fi_Md_100 (Or.inl rfl) ht d_Md_about_169 ?_
                        exact kw_wk (hk6 (gS σ5 (64 * t + 39)) σ5) ⟨Or.inl rfl, Or.inl rfl, trivial⟩
                      · refine kw_aload_n C d_Md_about_161 rfl ?_
                        refine kw_getI C fi_Md_97 (Or.inl rfl) ht d_Md_about_162 ?_
                        refine kw_goto (tgt := 172) C d_Md_about_165 (by decide) ?_
                        exact kw_wk (hk6 (gS σ5 (64 * t + 38)) σ5) ⟨Or.inl rfl, Or.inl rfl, trivial⟩
                    · refine kw_aload_n C d_Md_about_148 rfl ?_
                      refine kw_getI C fi_Md_375 (Or.inl rfl) ht d_Md_about_149 ?_
                      refine kw_goto (tgt := 172) C d_Md_about_152 (by decide) ?_
                      exact kw_wk (hk6 (gS σ5 (64 * t + 15)) σ5) ⟨Or.inl rfl, Or.inl rfl, trivial⟩
                  · refine kw_aload_n C d_Md_about_135 rfl ?_
                    refine kw_getI C fi_Md_372 (Or.inl rfl) ht d_Md_about_136 ?_
                    refine kw_goto (tgt := 172) C d_Md_about_139 (by decide) ?_
                    exact kw_wk (hk6 (gS σ5 (64 * t + 13)) σ5) ⟨Or.inl rfl, Or.inl rfl, trivial⟩
                · refine kw_aload_n C d_Md_about_115 rfl ?_
                  refine kw_getI C fi_Md_369 (Or.inr rfl) ht d_Md_about_116 ?_
                  refine kw_if_eq (tgt := 126) C d_Md_about_119 (by decide) ?_ ?_
                  · refine kw_iconst (v := 0) C d_Md_about_126 (by decide) ?_
                    refine kw_goto (tgt := 172) C d_Md_about_127 (by decide) ?_
                    exact kw_wk (hk6 0 σ5) ⟨Or.inl rfl, Or.inl rfl, trivial⟩
                  · refine kw_iconst (v := 1) C d_Md_about_122 (by decide) ?_
                    refine kw_goto (tgt := 172) C d_Md_about_123 (by decide) ?_
                    exact kw_wk (hk6 1 σ5) ⟨Or.inl rfl, Or.inl rfl, trivial⟩
              · refine kw_aload_n C d_Md_about_103 rfl ?_
                refine kw_getI C fi_Md_366 (Or.inl rfl) ht d_Md_about_104 ?_
                refine kw_goto (tgt := 172) C d_Md_about_107 (by decide) ?_
                exact kw_wk (hk6 (gS σ5 (64 * t + 9)) σ5) ⟨Or.inl rfl, Or.inl rfl, trivial⟩
            · refine kw_aload_n C d_Md_about_91 rfl ?_
              refine kw_getI C fi_Md_363 (Or.inl rfl) ht d_Md_about_92 ?_
              refine kw_goto (tgt := 172) C d_Md_about_95 (by decide) ?_
              exact kw_wk (hk6 (gS σ5 (64 * t + 8)) σ5) ⟨Or.inl rfl, Or.inl rfl, trivial⟩
          · refine kw_aload_n C d_Md_about_79 rfl ?_
            refine kw_getI C fi_Md_360 (Or.inl rfl) ht d_Md_about_80 ?_
            refine kw_goto (tgt := 172) C d_Md_about_83 (by decide) ?_
            exact kw_wk (hk6 (gS σ5 (64 * t + 7)) σ5) ⟨Or.inl rfl, Or.inl rfl, trivial⟩
        · refine kw_aload_n C d_Md_about_67 rfl ?_
          refine kw_getI C fi_Md_357 (Or.inl rfl) ht d_Md_about_68 ?_
          refine kw_goto (tgt := 172) C d_Md_about_71 (by decide) ?_
          exact kw_wk (hk6 (gS σ5 (64 * t + 6)) σ5) ⟨Or.inl rfl, Or.inl rfl, trivial⟩
    · refine kw_iconst (v := 0) C d_Md_about_37 (by decide) ?_
      exact kw_iret C Ce rfl (by simp) (fun _ _ => rfl) (Nat.le_of_ble_eq_true rfl) (Nat.le_of_ble_eq_true rfl) rfl d_Md_about_38
  · refine kw_if_ne (tgt := 12) C d_Md_about_5 (by decide) ?_ ?_
    · refine kw_iload_n C d_Md_about_12 rfl ?_
      refine kw_j (α := Unit) (pcj := 22) (Lj := fun x10 => [some (.ref t), some (.int a0)]) (stj := fun x10 => [.ref t]) (fun x10 σ11 => ?_) (fun k9 hk9 => ?_)
      · refine kw_iconst (v := 2) C d_Md_about_22 (by decide) ?_
        refine kw_goto (tgt := 27) C d_Md_about_23 (by decide) ?_
        exact kw_wk (hk1 2 σ11) ⟨Or.inr rfl, Or.inr rfl, trivial⟩
      · refine kw_if_lt (tgt := 22) C d_Md_about_13 (by decide) ?_ ?_
        · exact kw_wk (hk9 () σ) ⟨Or.inr rfl, Or.inr rfl, trivial⟩
        · refine kw_iload_n C d_Md_about_16 rfl ?_
          refine kw_bipush (v := 8) C d_Md_about_17 (by decide) ?_
          refine kw_icmp_le (tgt := 26) C d_Md_about_19 (by decide) ?_ ?_
          · refine kw_iconst (v := 0) C d_Md_about_26 (by decide) ?_
            exact kw_wk (hk1 0 σ) ⟨Or.inr rfl, Or.inr rfl, trivial⟩
          · exact kw_wk (hk9 () σ) ⟨Or.inr rfl, Or.inr rfl, trivial⟩
    · refine kw_iconst (v := 1) C d_Md_about_8 (by decide) ?_
      refine kw_goto (tgt := 27) C d_Md_about_9 (by decide) ?_
      exact kw_wk (hk1 1 σ) ⟨Or.inr rfl, Or.inr rfl, trivial⟩
/-! Md_pointFault -/
def rm_Md_pointFault : Room := { frames := 1, cells := 0, slots := 0, locals := 20 }
def F_Md_pointFault (n : Nat) (t : Nat) (a0 : Int32) (a1 : Int32) (a2 : Int32) (σ : Mm) : Option (Int32 × Mm) :=
kf_j (α := Int32) (fun x2 σ3 =>
some (x2, σ3)) fun k1 =>
if (gS σ (64 * t + 5)) = 0 then (
k1 1 σ) else (
kf_j (α := Unit) (fun x5 σ6 =>
k1 2 σ6) fun k4 =>
if a0 < 0 then (
k4 () σ) else (
if (gS σ (64 * t + 6)) ≤ a0 then (
k4 () σ) else (
if a1 < 0 then (
k4 () σ) else (
if (gS σ (64 * t + 7)) ≤ a1 then (
k4 () σ) else (
if a2 < 0 then (
k4 () σ) else (
kf_c2 (F_Md_channels n (gS σ (64 * t + 8)) σ) fun x7 σ8 =>
if a2 < x7 then (
k1 0 σ8) else (
k4 () σ8)))))))
theorem d_Md_pointFault_0 : decode prog_14_method_67_code 0 = .ok (.aload_n 0, 1) := by decide +kernel
theorem d_Md_pointFault_1 : decode prog_14_method_67_code 1 = .ok (.getfield 354, 3) := by decide +kernel
theorem d_Md_pointFault_4 : decode prog_14_method_67_code 4 = .ok (.ifCond .ne 7, 3) := by decide +kernel
theorem d_Md_pointFault_7 : decode prog_14_method_67_code 7 = .ok (.iconst 1, 1) := by decide +kernel
theorem d_Md_pointFault_8 : decode prog_14_method_67_code 8 = .ok (.goto 47, 3) := by decide +kernel
theorem d_Md_pointFault_11 : decode prog_14_method_67_code 11 = .ok (.iload_n 1, 1) := by decide +kernel
theorem d_Md_pointFault_12 : decode prog_14_method_67_code 12 = .ok (.ifCond .lt 38, 3) := by decide +kernel
theorem d_Md_pointFault_15 : decode prog_14_method_67_code 15 = .ok (.iload_n 1, 1) := by decide +kernel
theorem d_Md_pointFault_16 : decode prog_14_method_67_code 16 = .ok (.aload_n 0, 1) := by decide +kernel
theorem d_Md_pointFault_17 : decode prog_14_method_67_code 17 = .ok (.getfield 357, 3) := by decide +kernel
theorem d_Md_pointFault_20 : decode prog_14_method_67_code 20 = .ok (.if_icmp .ge 30, 3) := by decide +kernel
theorem d_Md_pointFault_23 : decode prog_14_method_67_code 23 = .ok (.iload_n 2, 1) := by decide +kernel
theorem d_Md_pointFault_24 : decode prog_14_method_67_code 24 = .ok (.ifCond .lt 26, 3) := by decide +kernel
theorem d_Md_pointFault_27 : decode prog_14_method_67_code 27 = .ok (.iload_n 2, 1) := by decide +kernel
theorem d_Md_pointFault_28 : decode prog_14_method_67_code 28 = .ok (.aload_n 0, 1) := by decide +kernel
theorem d_Md_pointFault_29 : decode prog_14_method_67_code 29 = .ok (.getfield 360, 3) := by decide +kernel
theorem d_Md_pointFault_32 : decode prog_14_method_67_code 32 = .ok (.if_icmp .ge 18, 3) := by decide +kernel
theorem d_Md_pointFault_35 : decode prog_14_method_67_code 35 = .ok (.iload_n 3, 1) := by decide +kernel
theorem d_Md_pointFault_36 : decode prog_14_method_67_code 36 = .ok (.ifCond .lt 14, 3) := by decide +kernel
theorem d_Md_pointFault_39 : decode prog_14_method_67_code 39 = .ok (.iload_n 3, 1) := by decide +kernel
theorem d_Md_pointFault_40 : decode prog_14_method_67_code 40 = .ok (.aload_n 0, 1) := by decide +kernel
theorem d_Md_pointFault_41 : decode prog_14_method_67_code 41 = .ok (.getfield 363, 3) := by decide +kernel
theorem d_Md_pointFault_44 : decode prog_14_method_67_code 44 = .ok (.invokestatic 119, 3) := by decide +kernel
theorem d_Md_pointFault_47 : decode prog_14_method_67_code 47 = .ok (.if_icmp .lt 7, 3) := by decide +kernel
theorem d_Md_pointFault_50 : decode prog_14_method_67_code 50 = .ok (.iconst 2, 1) := by decide +kernel
theorem d_Md_pointFault_51 : decode prog_14_method_67_code 51 = .ok (.goto 4, 3) := by decide +kernel
theorem d_Md_pointFault_54 : decode prog_14_method_67_code 54 = .ok (.iconst 0, 1) := by decide +kernel
theorem d_Md_pointFault_55 : decode prog_14_method_67_code 55 = .ok (.ireturn, 1) := by decide +kernel
set_option maxRecDepth 100000 in
set_option maxHeartbeats 4000000 in
theorem c_Md_pointFault {l0 : Launch} (hl : l0.stackTraces = false) (n : Nat) (ids : List Nat) {t : Nat} (ht : mm_ok ids t 1 12) (a0 : Int32) (a1 : Int32) (a2 : Int32) (σ : Mm) : kw_C l0 y_Md_pointFault (Cond.code y_Md_pointFault prog_14_method_67_code 4 (some .int) :: kw_Ts) rm_Md_pointFault kw_oi ids [] [.ref t, .int a0, .int a1, .int a2] σ (F_Md_pointFault n t a0 a1 a2 σ) := by
  refine kw_start (L0 := [some (.ref t), some (.int a0), some (.int a1), some (.int a2)]) hl (by decide +kernel) (Nat.le_of_ble_eq_true rfl) rfl (fun Γ ad C Ce => ?_)
  unfold F_Md_pointFault
  refine kw_aload_n C d_Md_pointFault_0 rfl ?_
  refine kw_getI C fi_Md_354 (Or.inr rfl) ht d_Md_pointFault_1 ?_
  refine kw_j (α := Int32) (pcj := 55) (Lj := fun x2 => [none, none, none, none]) (stj := fun x2 => [.int x2]) (fun x2 σ3 => ?_) (fun k1 hk1 => ?_)
  · exact kw_iret C Ce rfl (by simp) (fun _ _ => rfl) (Nat.le_of_ble_eq_true rfl) (Nat.le_of_ble_eq_true rfl) rfl d_Md_pointFault_55
  · refine kw_if_ne (tgt := 11) C d_Md_pointFault_4 (by decide) ?_ ?_
    · refine kw_iload_n C d_Md_pointFault_11 rfl ?_
      refine kw_j (α := Unit) (pcj := 50) (Lj := fun x5 => [none, none, none, none]) (stj := fun x5 => []) (fun x5 σ6 => ?_) (fun k4 hk4 => ?_)
      · refine kw_iconst (v := 2) C d_Md_pointFault_50 (by decide) ?_
        refine kw_goto (tgt := 55) C d_Md_pointFault_51 (by decide) ?_
        exact kw_wk (hk1 2 σ6) ⟨Or.inl rfl, Or.inl rfl, Or.inl rfl, Or.inl rfl, trivial⟩
      · refine kw_if_lt (tgt := 50) C d_Md_pointFault_12 (by decide) ?_ ?_
        · exact kw_wk (hk4 () σ) ⟨Or.inl rfl, Or.inl rfl, Or.inl rfl, Or.inl rfl, trivial⟩
        · refine kw_iload_n C d_Md_pointFault_15 rfl ?_
          refine kw_aload_n C d_Md_pointFault_16 rfl ?_
          refine kw_getI C fi_Md_357 (Or.inl rfl) ht d_Md_pointFault_17 ?_
          refine kw_icmp_ge (tgt := 50) C d_Md_pointFault_20 (by decide) ?_ ?_
          · exact kw_wk (hk4 () σ) ⟨Or.inl rfl, Or.inl rfl, Or.inl rfl, Or.inl rfl, trivial⟩
          · refine kw_iload_n C d_Md_pointFault_23 rfl ?_
            refine kw_if_lt (tgt := 50) C d_Md_pointFault_24 (by decide) ?_ ?_
            · exact kw_wk (hk4 () σ) ⟨Or.inl rfl, Or.inl rfl, Or.inl rfl, Or.inl rfl, trivial⟩
            · refine kw_iload_n C d_Md_pointFault_27 rfl ?_
              refine kw_aload_n C d_Md_pointFault_28 rfl ?_
              refine kw_getI C fi_Md_360 (Or.inl rfl) ht d_Md_pointFault_29 ?_
              refine kw_icmp_ge (tgt := 50) C d_Md_pointFault_32 (by decide) ?_ ?_
              · exact kw_wk (hk4 () σ) ⟨Or.inl rfl, Or.inl rfl, Or.inl rfl, Or.inl rfl, trivial⟩
              · refine kw_iload_n C d_Md_pointFault_35 rfl ?_
                refine kw_if_lt (tgt := 50) C d_Md_pointFault_36 (by decide) ?_ ?_
                · exact kw_wk (hk4 () σ) ⟨Or.inl rfl, Or.inl rfl, Or.inl rfl, Or.inl rfl, trivial⟩
                · refine kw_iload_n C d_Md_pointFault_39 rfl ?_
                  refine kw_aload_n C d_Md_pointFault_40 rfl ?_
                  refine kw_getI C fi_Md_363 (Or.inl rfl) ht d_Md_pointFault_41 ?_
                  refine kw_callSi (cl' := 0) (sl' := 0) (As := [.int (gS σ (64 * t + 8))]) C (c_Md_channels hl n ids  (gS σ (64 * t + 8)) σ) mi_Md_119 s_Md_channels ⟨Nat.le_of_ble_eq_true rfl, Nat.le_of_ble_eq_true rfl⟩ (Nat.le_of_ble_eq_true rfl) ⟨Nat.le_of_ble_eq_true rfl, Nat.le_of_ble_eq_true rfl⟩ ⟨rfl, rfl⟩ rfl d_Md_pointFault_44 (fun x7 σ8 => ?_)
                  refine kw_icmp_lt (tgt := 54) C d_Md_pointFault_47 (by decide) ?_ ?_
                  · refine kw_iconst (v := 0) C d_Md_pointFault_54 (by decide) ?_
                    exact kw_wk (hk1 0 σ8) ⟨Or.inl rfl, Or.inl rfl, Or.inl rfl, Or.inl rfl, trivial⟩
                  · exact kw_wk (hk4 () σ8) ⟨Or.inl rfl, Or.inl rfl, Or.inl rfl, Or.inl rfl, trivial⟩
    · refine kw_iconst (v := 1) C d_Md_pointFault_7 (by decide) ?_
      refine kw_goto (tgt := 55) C d_Md_pointFault_8 (by decide) ?_
      exact kw_wk (hk1 1 σ) ⟨Or.inl rfl, Or.inl rfl, Or.inl rfl, Or.inl rfl, trivial⟩
/-! Md_valueFault -/
def rm_Md_valueFault : Room := { frames := 0, cells := 0, slots := 0, locals := 0 }
def F_Md_valueFault (n : Nat) (t : Nat) (a0 : Int32) (σ : Mm) : Option (Int32 × Mm) :=
kf_j (α := Int32) (fun x2 σ3 =>
some (x2, σ3)) fun k1 =>
kf_j (α := Unit) (fun x5 σ6 =>
k1 3 σ6) fun k4 =>
if a0 < 0 then (
k4 () σ) else (
if ((1 : Int32) <<< ((gS σ (64 * t + 9)) &&& 31)) ≤ a0 then (
k4 () σ) else (
kf_j (α := Unit) (fun x8 σ9 =>
k1 0 σ9) fun k7 =>
if (gS σ (64 * t + 8)) = 3 then (
if a0 < (gS σ (64 * t + 13)) then (
k7 () σ) else (
k4 () σ)) else (
k7 () σ)))
theorem d_Md_valueFault_0 : decode prog_14_method_68_code 0 = .ok (.iload_n 1, 1) := by decide +kernel
theorem d_Md_valueFault_1 : decode prog_14_method_68_code 1 = .ok (.ifCond .lt 29, 3) := by decide +kernel
theorem d_Md_valueFault_4 : decode prog_14_method_68_code 4 = .ok (.iload_n 1, 1) := by decide +kernel
theorem d_Md_valueFault_5 : decode prog_14_method_68_code 5 = .ok (.iconst 1, 1) := by decide +kernel
theorem d_Md_valueFault_6 : decode prog_14_method_68_code 6 = .ok (.aload_n 0, 1) := by decide +kernel
theorem d_Md_valueFault_7 : decode prog_14_method_68_code 7 = .ok (.getfield 366, 3) := by decide +kernel
theorem d_Md_valueFault_10 : decode prog_14_method_68_code 10 = .ok (.ishl, 1) := by decide +kernel
theorem d_Md_valueFault_11 : decode prog_14_method_68_code 11 = .ok (.if_icmp .ge 19, 3) := by decide +kernel
theorem d_Md_valueFault_14 : decode prog_14_method_68_code 14 = .ok (.aload_n 0, 1) := by decide +kernel
theorem d_Md_valueFault_15 : decode prog_14_method_68_code 15 = .ok (.getfield 363, 3) := by decide +kernel
theorem d_Md_valueFault_18 : decode prog_14_method_68_code 18 = .ok (.iconst 3, 1) := by decide +kernel
theorem d_Md_valueFault_19 : decode prog_14_method_68_code 19 = .ok (.if_icmp .ne 15, 3) := by decide +kernel
theorem d_Md_valueFault_22 : decode prog_14_method_68_code 22 = .ok (.iload_n 1, 1) := by decide +kernel
theorem d_Md_valueFault_23 : decode prog_14_method_68_code 23 = .ok (.aload_n 0, 1) := by decide +kernel
theorem d_Md_valueFault_24 : decode prog_14_method_68_code 24 = .ok (.getfield 372, 3) := by decide +kernel
theorem d_Md_valueFault_27 : decode prog_14_method_68_code 27 = .ok (.if_icmp .lt 7, 3) := by decide +kernel
theorem d_Md_valueFault_30 : decode prog_14_method_68_code 30 = .ok (.iconst 3, 1) := by decide +kernel
theorem d_Md_valueFault_31 : decode prog_14_method_68_code 31 = .ok (.goto 4, 3) := by decide +kernel
theorem d_Md_valueFault_34 : decode prog_14_method_68_code 34 = .ok (.iconst 0, 1) := by decide +kernel
theorem d_Md_valueFault_35 : decode prog_14_method_68_code 35 = .ok (.ireturn, 1) := by decide +kernel
set_option maxRecDepth 100000 in
set_option maxHeartbeats 4000000 in
theorem c_Md_valueFault {l0 : Launch} (hl : l0.stackTraces = false) (n : Nat) (ids : List Nat) {t : Nat} (ht : mm_ok ids t 1 12) (a0 : Int32) (σ : Mm) : kw_C l0 y_Md_valueFault (Cond.code y_Md_valueFault prog_14_method_68_code 2 (some .int) :: kw_Ts) rm_Md_valueFault kw_oi ids [] [.ref t, .int a0] σ (F_Md_valueFault n t a0 σ) := by
  refine kw_start (L0 := [some (.ref t), some (.int a0)]) hl (by decide +kernel) (Nat.le_of_ble_eq_true rfl) rfl (fun Γ ad C Ce => ?_)
  unfold F_Md_valueFault
  refine kw_iload_n C d_Md_valueFault_0 rfl ?_
  refine kw_j (α := Int32) (pcj := 35) (Lj := fun x2 => [none, none]) (stj := fun x2 => [.int x2]) (fun x2 σ3 => ?_) (fun k1 hk1 => ?_)
  · exact kw_iret C Ce rfl (by simp) (fun _ _ => rfl) (Nat.le_of_ble_eq_true rfl) (Nat.le_of_ble_eq_true rfl) rfl d_Md_valueFault_35
  · refine kw_j (α := Unit) (pcj := 30) (Lj := fun x5 => [none, none]) (stj := fun x5 => []) (fun x5 σ6 => ?_) (fun k4 hk4 => ?_)
    · refine kw_iconst (v := 3) C d_Md_valueFault_30 (by decide) ?_
      refine kw_goto (tgt := 35) C d_Md_valueFault_31 (by decide) ?_
      exact kw_wk (hk1 3 σ6) ⟨Or.inl rfl, Or.inl rfl, trivial⟩
    · refine kw_if_lt (tgt := 30) C d_Md_valueFault_1 (by decide) ?_ ?_
      · exact kw_wk (hk4 () σ) ⟨Or.inl rfl, Or.inl rfl, trivial⟩
      · refine kw_iload_n C d_Md_valueFault_4 rfl ?_
        refine kw_iconst (v := 1) C d_Md_valueFault_5 (by decide) ?_
        refine kw_aload_n C d_Md_valueFault_6 rfl ?_
        refine kw_getI C fi_Md_366 (Or.inl rfl) ht d_Md_valueFault_7 ?_
        refine kw_ishl C d_Md_valueFault_10 ?_
        refine kw_icmp_ge (tgt := 30) C d_Md_valueFault_11 (by decide) ?_ ?_
        · exact kw_wk (hk4 () σ) ⟨Or.inl rfl, Or.inl rfl, trivial⟩
        · refine kw_aload_n C d_Md_valueFault_14 rfl ?_
          refine kw_getI C fi_Md_363 (Or.inl rfl) ht d_Md_valueFault_15 ?_
          refine kw_iconst (v := 3) C d_Md_valueFault_18 (by decide) ?_
          refine kw_j (α := Unit) (pcj := 34) (Lj := fun x8 => [none, none]) (stj := fun x8 => []) (fun x8 σ9 => ?_) (fun k7 hk7 => ?_)
          · refine kw_iconst (v := 0) C d_Md_valueFault_34 (by decide) ?_
            exact kw_wk (hk1 0 σ9) ⟨Or.inl rfl, Or.inl rfl, trivial⟩
          · refine kw_icmp_ne (tgt := 34) C d_Md_valueFault_19 (by decide) ?_ ?_
            · exact kw_wk (hk7 () σ) ⟨Or.inl rfl, Or.inl rfl, trivial⟩
            · refine kw_iload_n C d_Md_valueFault_22 rfl ?_
              refine kw_aload_n C d_Md_valueFault_23 rfl ?_
              refine kw_getI C fi_Md_372 (Or.inl rfl) ht d_Md_valueFault_24 ?_
              refine kw_icmp_lt (tgt := 34) C d_Md_valueFault_27 (by decide) ?_ ?_
              · exact kw_wk (hk7 () σ) ⟨Or.inl rfl, Or.inl rfl, trivial⟩
              · exact kw_wk (hk4 () σ) ⟨Or.inl rfl, Or.inl rfl, trivial⟩
/-! Md_sample -/
def rm_Md_sample : Room := { frames := 2, cells := 0, slots := 0, locals := 43 }
def F_Md_sample (n : Nat) (t : Nat) (a0 : Int32) (a1 : Int32) (a2 : Int32) (σ : Mm) : Option (Int32 × Mm) :=
kf_c2 (F_Md_pointFault n t a0 a1 a2 σ) fun x1 σ2 =>
kf_let (pS σ2 (64 * t + 0) x1) fun σ3 =>
kf_j (α := Int32) (fun x5 σ6 =>
some (x5, σ6)) fun k4 =>
if (gS σ3 (64 * t + 0)) ≤ 0 then (
Option.bind (gR σ3 (64 * t + 11)) fun o7 =>
kf_c2 (F_Md_channels n (gS σ3 (64 * t + 8)) σ3) fun x8 σ9 =>
kf_let ((((a1 * (gS σ3 (64 * t + 6))) + a0) * x8) + a2 : Int32) fun x10 =>
kf_in x10 (mm_kd o7).2.2 <|
k4 (gB σ9 o7 x10.toNatClampNeg) σ9) else (
k4 0 σ3)
theorem d_Md_sample_0 : decode prog_14_method_69_code 0 = .ok (.aload_n 0, 1) := by decide +kernel
theorem d_Md_sample_1 : decode prog_14_method_69_code 1 = .ok (.aload_n 0, 1) := by decide +kernel
theorem d_Md_sample_2 : decode prog_14_method_69_code 2 = .ok (.iload_n 1, 1) := by decide +kernel
theorem d_Md_sample_3 : decode prog_14_method_69_code 3 = .ok (.iload_n 2, 1) := by decide +kernel
theorem d_Md_sample_4 : decode prog_14_method_69_code 4 = .ok (.iload_n 3, 1) := by decide +kernel
theorem d_Md_sample_5 : decode prog_14_method_69_code 5 = .ok (.invokevirtual 378, 3) := by decide +kernel
theorem d_Md_sample_8 : decode prog_14_method_69_code 8 = .ok (.putfield 67, 3) := by decide +kernel
theorem d_Md_sample_11 : decode prog_14_method_69_code 11 = .ok (.aload_n 0, 1) := by decide +kernel
theorem d_Md_sample_12 : decode prog_14_method_69_code 12 = .ok (.getfield 67, 3) := by decide +kernel
theorem d_Md_sample_15 : decode prog_14_method_69_code 15 = .ok (.ifCond .le 7, 3) := by decide +kernel
theorem d_Md_sample_18 : decode prog_14_method_69_code 18 = .ok (.iconst 0, 1) := by decide +kernel
theorem d_Md_sample_19 : decode prog_14_method_69_code 19 = .ok (.goto 26, 3) := by decide +kernel
theorem d_Md_sample_22 : decode prog_14_method_69_code 22 = .ok (.aload_n 0, 1) := by decide +kernel
theorem d_Md_sample_23 : decode prog_14_method_69_code 23 = .ok (.getfield 14, 3) := by decide +kernel
theorem d_Md_sample_26 : decode prog_14_method_69_code 26 = .ok (.iload_n 2, 1) := by decide +kernel
theorem d_Md_sample_27 : decode prog_14_method_69_code 27 = .ok (.aload_n 0, 1) := by decide +kernel
theorem d_Md_sample_28 : decode prog_14_method_69_code 28 = .ok (.getfield 357, 3) := by decide +kernel
theorem d_Md_sample_31 : decode prog_14_method_69_code 31 = .ok (.imul, 1) := by decide +kernel
theorem d_Md_sample_32 : decode prog_14_method_69_code 32 = .ok (.iload_n 1, 1) := by decide +kernel
theorem d_Md_sample_33 : decode prog_14_method_69_code 33 = .ok (.iadd, 1) := by decide +kernel
theorem d_Md_sample_34 : decode prog_14_method_69_code 34 = .ok (.aload_n 0, 1) := by decide +kernel
theorem d_Md_sample_35 : decode prog_14_method_69_code 35 = .ok (.getfield 363, 3) := by decide +kernel
theorem d_Md_sample_38 : decode prog_14_method_69_code 38 = .ok (.invokestatic 119, 3) := by decide +kernel
theorem d_Md_sample_41 : decode prog_14_method_69_code 41 = .ok (.imul, 1) := by decide +kernel
theorem d_Md_sample_42 : decode prog_14_method_69_code 42 = .ok (.iload_n 3, 1) := by decide +kernel
theorem d_Md_sample_43 : decode prog_14_method_69_code 43 = .ok (.iadd, 1) := by decide +kernel
theorem d_Md_sample_44 : decode prog_14_method_69_code 44 = .ok (.iaload, 1) := by decide +kernel
theorem d_Md_sample_45 : decode prog_14_method_69_code 45 = .ok (.ireturn, 1) := by decide +kernel
set_option maxRecDepth 100000 in
set_option maxHeartbeats 4000000 in
theorem c_Md_sample {l0 : Launch} (hl : l0.stackTraces = false) (n : Nat) (ids : List Nat) {t : Nat} (ht : mm_ok ids t 1 12) (a0 : Int32) (a1 : Int32) (a2 : Int32) (σ : Mm) : kw_C l0 y_Md_sample (Cond.code y_Md_sample prog_14_method_69_code 4 (some .int) :: kw_Ts) rm_Md_sample kw_oi ids [] [.ref t, .int a0, .int a1, .int a2] σ (F_Md_sample n t a0 a1 a2 σ) := by
  refine kw_start (L0 := [some (.ref t), some (.int a0), some (.int a1), some (.int a2)]) hl (by decide +kernel) (Nat.le_of_ble_eq_true rfl) rfl (fun Γ ad C Ce => ?_)
  unfold F_Md_sample
  refine kw_aload_n C d_Md_sample_0 rfl ?_
  refine kw_aload_n C d_Md_sample_1 rfl ?_
  refine kw_iload_n C d_Md_sample_2 rfl ?_
  refine kw_iload_n C d_Md_sample_3 rfl ?_
  refine kw_iload_n C d_Md_sample_4 rfl ?_
  refine kw_callVi (cl' := 0) (sl' := 0) (As := [.int a0, .int a1, .int a2]) C (c_Md_pointFault hl n ids ht a0 a1 a2 σ) mi_Md_378 v_Md_pointFault ⟨_, _, rfl⟩ ht ⟨Nat.le_of_ble_eq_true rfl, Nat.le_of_ble_eq_true rfl⟩ (Nat.le_of_ble_eq_true rfl) ⟨Nat.le_of_ble_eq_true rfl, Nat.le_of_ble_eq_true rfl⟩ ⟨rfl, rfl⟩ rfl d_Md_sample_5 (fun x1 σ2 => ?_)
  refine kw_putI C fi_Md_67 rfl ht d_Md_sample_8 (fun σ3 => ?_)
  refine kw_aload_n C d_Md_sample_11 rfl ?_
  refine kw_getI C fi_Md_67 (Or.inl rfl) ht d_Md_sample_12 ?_
  refine kw_j (α := Int32) (pcj := 45) (Lj := fun x5 => [none, none, none, none]) (stj := fun x5 => [.int x5]) (fun x5 σ6 => ?_) (fun k4 hk4 => ?_)
  · exact kw_iret C Ce rfl (by simp) (fun _ _ => rfl) (Nat.le_of_ble_eq_true rfl) (Nat.le_of_ble_eq_true rfl) rfl d_Md_sample_45
  · refine kw_if_le (tgt := 22) C d_Md_sample_15 (by decide) ?_ ?_
    · refine kw_aload_n C d_Md_sample_22 rfl ?_
      refine kw_getR C fi_Md_14 rfl rfl ht d_Md_sample_23 (fun o7 ho7 => ?_)
      refine kw_iload_n C d_Md_sample_26 rfl ?_
      refine kw_aload_n C d_Md_sample_27 rfl ?_
      refine kw_getI C fi_Md_357 (Or.inl rfl) ht d_Md_sample_28 ?_
      refine kw_imul C d_Md_sample_31 ?_
      refine kw_iload_n C d_Md_sample_32 rfl ?_
      refine kw_iadd C d_Md_sample_33 ?_
      refine kw_aload_n C d_Md_sample_34 rfl ?_
      refine kw_getI C fi_Md_363 (Or.inl rfl) ht d_Md_sample_35 ?_
      refine kw_callSi (cl' := 0) (sl' := 0) (As := [.int (gS σ3 (64 * t + 8))]) C (c_Md_channels hl n ids  (gS σ3 (64 * t + 8)) σ3) mi_Md_119 s_Md_channels ⟨Nat.le_of_ble_eq_true rfl, Nat.le_of_ble_eq_true rfl⟩ (Nat.le_of_ble_eq_true rfl) ⟨Nat.le_of_ble_eq_true rfl, Nat.le_of_ble_eq_true rfl⟩ ⟨rfl, rfl⟩ rfl d_Md_sample_38 (fun x8 σ9 => ?_)
      refine kw_imul C d_Md_sample_41 ?_
      refine kw_iload_n C d_Md_sample_42 rfl ?_
      refine kw_iadd C d_Md_sample_43 ?_
      refine kw_leti (fun x10 => ?_)
      refine kw_iald C (Or.inl ⟨ho7.1, ho7.2.1⟩) d_Md_sample_44 ?_
      exact kw_wk (hk4 (gB σ9 o7 x10.toNatClampNeg) σ9) ⟨Or.inl rfl, Or.inl rfl, Or.inl rfl, Or.inl rfl, trivial⟩
    · refine kw_iconst (v := 0) C d_Md_sample_18 (by decide) ?_
      refine kw_goto (tgt := 45) C d_Md_sample_19 (by decide) ?_
      exact kw_wk (hk4 0 σ3) ⟨Or.inl rfl, Or.inl rfl, Or.inl rfl, Or.inl rfl, trivial⟩
/-! Md_set -/
def rm_Md_set : Room := { frames := 2, cells := 0, slots := 0, locals := 43 }
def F_Md_set (n : Nat) (t : Nat) (a0 : Int32) (a1 : Int32) (a2 : Int32) (a3 : Int32) (σ : Mm) : Option (Mm) :=
kf_c2 (F_Md_pointFault n t a0 a1 a2 σ) fun x1 σ2 =>
kf_let (pS σ2 (64 * t + 0) x1) fun σ3 =>
kf_j (α := Int32) (fun x5 σ6 =>
kf_let (pS σ6 (64 * t + 0) x5) fun σ7 =>
kf_j (α := Unit) (fun x9 σ10 =>
some σ10) fun k8 =>
if (gS σ7 (64 * t + 0)) = 0 then (
Option.bind (gR σ7 (64 * t + 11)) fun o11 =>
kf_c2 (F_Md_channels n (gS σ7 (64 * t + 8)) σ7) fun x12 σ13 =>
kf_in ((((a1 * (gS σ7 (64 * t + 6))) + a0) * x12) + a2) (mm_kd o11).2.2 <| kf_let (pB σ13 o11 ((((a1 * (gS σ7 (64 * t + 6))) + a0) * x12) + a2).toNatClampNeg a3) fun σ14 =>
k8 () σ14) else (
k8 () σ7)) fun k4 =>
if (gS σ3 (64 * t + 0)) = 0 then (
kf_c2 (F_Md_valueFault n t a3 σ3) fun x15 σ16 =>
k4 x15 σ16) else (
k4 (gS σ3 (64 * t + 0)) σ3)
theorem d_Md_set_0 : decode prog_14_method_70_code 0 = .ok (.aload_n 0, 1) := by decide +kernel
theorem d_Md_set_1 : decode prog_14_method_70_code 1 = .ok (.aload_n 0, 1) := by decide +kernel
theorem d_Md_set_2 : decode prog_14_method_70_code 2 = .ok (.iload_n 1, 1) := by decide +kernel
theorem d_Md_set_3 : decode prog_14_method_70_code 3 = .ok (.iload_n 2, 1) := by decide +kernel
theorem d_Md_set_4 : decode prog_14_method_70_code 4 = .ok (.iload_n 3, 1) := by decide +kernel
theorem d_Md_set_5 : decode prog_14_method_70_code 5 = .ok (.invokevirtual 378, 3) := by decide +kernel
theorem d_Md_set_8 : decode prog_14_method_70_code 8 = .ok (.putfield 67, 3) := by decide +kernel
theorem d_Md_set_11 : decode prog_14_method_70_code 11 = .ok (.aload_n 0, 1) := by decide +kernel
theorem d_Md_set_12 : decode prog_14_method_70_code 12 = .ok (.aload_n 0, 1) := by decide +kernel
theorem d_Md_set_13 : decode prog_14_method_70_code 13 = .ok (.getfield 67, 3) := by decide +kernel
theorem d_Md_set_16 : decode prog_14_method_70_code 16 = .ok (.ifCond .ne 12, 3) := by decide +kernel
theorem d_Md_set_19 : decode prog_14_method_70_code 19 = .ok (.aload_n 0, 1) := by decide +kernel
theorem d_Md_set_20 : decode prog_14_method_70_code 20 = .ok (.iload 4, 2) := by decide +kernel
theorem d_Md_set_22 : decode prog_14_method_70_code 22 = .ok (.invokevirtual 381, 3) := by decide +kernel
theorem d_Md_set_25 : decode prog_14_method_70_code 25 = .ok (.goto 7, 3) := by decide +kernel
theorem d_Md_set_28 : decode prog_14_method_70_code 28 = .ok (.aload_n 0, 1) := by decide +kernel
theorem d_Md_set_29 : decode prog_14_method_70_code 29 = .ok (.getfield 67, 3) := by decide +kernel
theorem d_Md_set_32 : decode prog_14_method_70_code 32 = .ok (.putfield 67, 3) := by decide +kernel
theorem d_Md_set_35 : decode prog_14_method_70_code 35 = .ok (.aload_n 0, 1) := by decide +kernel
theorem d_Md_set_36 : decode prog_14_method_70_code 36 = .ok (.getfield 67, 3) := by decide +kernel
theorem d_Md_set_39 : decode prog_14_method_70_code 39 = .ok (.ifCond .ne 28, 3) := by decide +kernel
theorem d_Md_set_42 : decode prog_14_method_70_code 42 = .ok (.aload_n 0, 1) := by decide +kernel
theorem d_Md_set_43 : decode prog_14_method_70_code 43 = .ok (.getfield 14, 3) := by decide +kernel
theorem d_Md_set_46 : decode prog_14_method_70_code 46 = .ok (.iload_n 2, 1) := by decide +kernel
theorem d_Md_set_47 : decode prog_14_method_70_code 47 = .ok (.aload_n 0, 1) := by decide +kernel
theorem d_Md_set_48 : decode prog_14_method_70_code 48 = .ok (.getfield 357, 3) := by decide +kernel
theorem d_Md_set_51 : decode prog_14_method_70_code 51 = .ok (.imul, 1) := by decide +kernel
theorem d_Md_set_52 : decode prog_14_method_70_code 52 = .ok (.iload_n 1, 1) := by decide +kernel
theorem d_Md_set_53 : decode prog_14_method_70_code 53 = .ok (.iadd, 1) := by decide +kernel
theorem d_Md_set_54 : decode prog_14_method_70_code 54 = .ok (.aload_n 0, 1) := by decide +kernel
theorem d_Md_set_55 : decode prog_14_method_70_code 55 = .ok (.getfield 363, 3) := by decide +kernel
theorem d_Md_set_58 : decode prog_14_method_70_code 58 = .ok (.invokestatic 119, 3) := by decide +kernel
theorem d_Md_set_61 : decode prog_14_method_70_code 61 = .ok (.imul, 1) := by decide +kernel
theorem d_Md_set_62 : decode prog_14_method_70_code 62 = .ok (.iload_n 3, 1) := by decide +kernel
theorem d_Md_set_63 : decode prog_14_method_70_code 63 = .ok (.iadd, 1) := by decide +kernel
theorem d_Md_set_64 : decode prog_14_method_70_code 64 = .ok (.iload 4, 2) := by decide +kernel
theorem d_Md_set_66 : decode prog_14_method_70_code 66 = .ok (.iastore, 1) := by decide +kernel
theorem d_Md_set_67 : decode prog_14_method_70_code 67 = .ok (.return_, 1) := by decide +kernel
set_option maxRecDepth 100000 in
set_option maxHeartbeats 4000000 in
theorem c_Md_set {l0 : Launch} (hl : l0.stackTraces = false) (n : Nat) (ids : List Nat) {t : Nat} (ht : mm_ok ids t 1 12) (a0 : Int32) (a1 : Int32) (a2 : Int32) (a3 : Int32) (σ : Mm) : kw_C l0 y_Md_set (Cond.code y_Md_set prog_14_method_70_code 5 none :: kw_Ts) rm_Md_set kw_ov ids [] [.ref t, .int a0, .int a1, .int a2, .int a3] σ (F_Md_set n t a0 a1 a2 a3 σ) := by
  refine kw_start (L0 := [some (.ref t), some (.int a0), some (.int a1), some (.int a2), some (.int a3)]) hl (by decide +kernel) (Nat.le_of_ble_eq_true rfl) rfl (fun Γ ad C Ce => ?_)
  unfold F_Md_set
  refine kw_aload_n C d_Md_set_0 rfl ?_
  refine kw_aload_n C d_Md_set_1 rfl ?_
  refine kw_iload_n C d_Md_set_2 rfl ?_
  refine kw_iload_n C d_Md_set_3 rfl ?_
  refine kw_iload_n C d_Md_set_4 rfl ?_
  refine kw_callVi (cl' := 0) (sl' := 0) (As := [.int a0, .int a1, .int a2]) C (c_Md_pointFault hl n ids ht a0 a1 a2 σ) mi_Md_378 v_Md_pointFault ⟨_, _, rfl⟩ ht ⟨Nat.le_of_ble_eq_true rfl, Nat.le_of_ble_eq_true rfl⟩ (Nat.le_of_ble_eq_true rfl) ⟨Nat.le_of_ble_eq_true rfl, Nat.le_of_ble_eq_true rfl⟩ ⟨rfl, rfl⟩ rfl d_Md_set_5 (fun x1 σ2 => ?_)
  refine kw_putI C fi_Md_67 rfl ht d_Md_set_8 (fun σ3 => ?_)
  refine kw_aload_n C d_Md_set_11 rfl ?_
  refine kw_aload_n C d_Md_set_12 rfl ?_
  refine kw_getI C fi_Md_67 (Or.inl rfl) ht d_Md_set_13 ?_
  refine kw_j (α := Int32) (pcj := 32) (Lj := fun x5 => [some (.ref t), some (.int a0), some (.int a1), some (.int a2), some (.int a3)]) (stj := fun x5 => [.int x5, .ref t]) (fun x5 σ6 => ?_) (fun k4 hk4 => ?_)
  · refine kw_putI C fi_Md_67 rfl ht d_Md_set_32 (fun σ7 => ?_)
    refine kw_aload_n C d_Md_set_35 rfl ?_
    refine kw_getI C fi_Md_67 (Or.inl rfl) ht d_Md_set_36 ?_
    refine kw_j (α := Unit) (pcj := 67) (Lj := fun x9 => [none, none, none, none, none]) (stj := fun x9 => []) (fun x9 σ10 => ?_) (fun k8 hk8 => ?_)
    · exact kw_vret C Ce rfl (by simp) (fun _ _ => rfl) (Nat.le_of_ble_eq_true rfl) (Nat.le_of_ble_eq_true rfl) rfl d_Md_set_67
    · refine kw_if_ne (tgt := 67) C d_Md_set_39 (by decide) ?_ ?_
      · exact kw_wk (hk8 () σ7) ⟨Or.inl rfl, Or.inl rfl, Or.inl rfl, Or.inl rfl, Or.inl rfl, trivial⟩
      · refine kw_aload_n C d_Md_set_42 rfl ?_
        refine kw_getR C fi_Md_14 rfl rfl ht d_Md_set_43 (fun o11 ho11 => ?_)
        refine kw_iload_n C d_Md_set_46 rfl ?_
        refine kw_aload_n C d_Md_set_47 rfl ?_
        refine kw_getI C fi_Md_357 (Or.inl rfl) ht d_Md_set_48 ?_
        refine kw_imul C d_Md_set_51 ?_
        refine kw_iload_n C d_Md_set_52 rfl ?_
        refine kw_iadd C d_Md_set_53 ?_
        refine kw_aload_n C d_Md_set_54 rfl ?_
        refine kw_getI C fi_Md_363 (Or.inl rfl) ht d_Md_set_55 ?_
        refine kw_callSi (cl' := 0) (sl' := 0) (As := [.int (gS σ7 (64 * t + 8))]) C (c_Md_channels hl n ids  (gS σ7 (64 * t + 8)) σ7) mi_Md_119 s_Md_channels ⟨Nat.le_of_ble_eq_true rfl, Nat.le_of_ble_eq_true rfl⟩ (Nat.le_of_ble_eq_true rfl) ⟨Nat.le_of_ble_eq_true rfl, Nat.le_of_ble_eq_true rfl⟩ ⟨rfl, rfl⟩ rfl d_Md_set_58 (fun x12 σ13 => ?_)
        refine kw_imul C d_Md_set_61 ?_
        refine kw_iload_n C d_Md_set_62 rfl ?_
        refine kw_iadd C d_Md_set_63 ?_
        refine kw_iload C d_Md_set_64 rfl ?_
        refine kw_iast C ho11 d_Md_set_66 (fun σ14 => ?_)
        exact kw_wk (hk8 () σ14) ⟨Or.inl rfl, Or.inl rfl, Or.inl rfl, Or.inl rfl, Or.inl rfl, trivial⟩
  · refine kw_if_ne (tgt := 28) C d_Md_set_16 (by decide) ?_ ?_
    · refine kw_aload_n C d_Md_set_28 rfl ?_
      refine kw_getI C fi_Md_67 (Or.inl rfl) ht d_Md_set_29 ?_
      exact kw_wk (hk4 (gS σ3 (64 * t + 0)) σ3) ⟨Or.inr rfl, Or.inr rfl, Or.inr rfl, Or.inr rfl, Or.inr rfl, trivial⟩
    · refine kw_aload_n C d_Md_set_19 rfl ?_
      refine kw_iload C d_Md_set_20 rfl ?_
      refine kw_callVi (cl' := 0) (sl' := 0) (As := [.int a3]) C (c_Md_valueFault hl n ids ht a3 σ3) mi_Md_381 v_Md_valueFault ⟨_, _, rfl⟩ ht ⟨Nat.le_of_ble_eq_true rfl, Nat.le_of_ble_eq_true rfl⟩ (Nat.le_of_ble_eq_true rfl) ⟨Nat.le_of_ble_eq_true rfl, Nat.le_of_ble_eq_true rfl⟩ ⟨rfl, rfl⟩ rfl d_Md_set_22 (fun x15 σ16 => ?_)
      refine kw_goto (tgt := 32) C d_Md_set_25 (by decide) ?_
      exact kw_wk (hk4 x15 σ16) ⟨Or.inr rfl, Or.inr rfl, Or.inr rfl, Or.inr rfl, Or.inr rfl, trivial⟩
/-! Md_fill -/
def rm_Md_fill : Room := { frames := 2, cells := 0, slots := 0, locals := 43 }
def F_Md_fill (n : Nat) (t : Nat) (a0 : Int32) (a1 : Int32) (a2 : Int32) (a3 : Int32) (a4 : Int32) (a5 : Int32) (σ : Mm) : Option (Mm) :=
kf_c2 (F_Md_pointFault n t a0 a1 a4 σ) fun x1 σ2 =>
kf_let (pS σ2 (64 * t + 0) x1) fun σ3 =>
kf_j (α := Int32) (fun x5 σ6 =>
kf_let (pS σ6 (64 * t + 0) x5) fun σ7 =>
kf_j (α := Int32) (fun x9 σ10 =>
kf_let (pS σ10 (64 * t + 0) x9) fun σ11 =>
if (gS σ11 (64 * t + 0)) ≤ 0 then (
kf_l (α := Int32) n (fun k12 x13 σ14 =>
if (a0 + a2) ≤ x13 then (
some σ14) else (
kf_l (α := Int32) n (fun k15 x16 σ17 =>
if (a1 + a3) ≤ x16 then (
kf_let (x13 + Int32.ofInt 1) fun x18 =>
k12 x18 σ17) else (
Option.bind (gR σ17 (64 * t + 11)) fun o19 =>
kf_c2 (F_Md_channels n (gS σ17 (64 * t + 8)) σ17) fun x20 σ21 =>
kf_in ((((x16 * (gS σ17 (64 * t + 6))) + x13) * x20) + a4) (mm_kd o19).2.2 <| kf_let (pB σ21 o19 ((((x16 * (gS σ17 (64 * t + 6))) + x13) * x20) + a4).toNatClampNeg a5) fun σ22 =>
kf_let (x16 + Int32.ofInt 1) fun x23 =>
k15 x23 σ22)) a1 σ14)) a0 σ11) else (
some σ11)) fun k8 =>
if (gS σ7 (64 * t + 0)) = 0 then (
kf_c2 (F_Md_valueFault n t a5 σ7) fun x24 σ25 =>
k8 x24 σ25) else (
k8 (gS σ7 (64 * t + 0)) σ7)) fun k4 =>
kf_j (α := Unit) (fun x27 σ28 =>
k4 (gS σ28 (64 * t + 0)) σ28) fun k26 =>
if (gS σ3 (64 * t + 0)) = 0 then (
kf_j (α := Unit) (fun x30 σ31 =>
k4 2 σ31) fun k29 =>
if a2 < 1 then (
k29 () σ3) else (
if a3 < 1 then (
k29 () σ3) else (
if ((gS σ3 (64 * t + 6)) - a0) < a2 then (
k29 () σ3) else (
if a3 ≤ ((gS σ3 (64 * t + 7)) - a1) then (
k26 () σ3) else (
k29 () σ3))))) else (
k26 () σ3)
theorem d_Md_fill_0 : decode prog_14_method_71_code 0 = .ok (.aload_n 0, 1) := by decide +kernel
theorem d_Md_fill_1 : decode prog_14_method_71_code 1 = .ok (.aload_n 0, 1) := by decide +kernel
theorem d_Md_fill_2 : decode prog_14_method_71_code 2 = .ok (.iload_n 1, 1) := by decide +kernel
theorem d_Md_fill_3 : decode prog_14_method_71_code 3 = .ok (.iload_n 2, 1) := by decide +kernel
theorem d_Md_fill_4 : decode prog_14_method_71_code 4 = .ok (.iload 5, 2) := by decide +kernel
theorem d_Md_fill_6 : decode prog_14_method_71_code 6 = .ok (.invokevirtual 378, 3) := by decide +kernel
theorem d_Md_fill_9 : decode prog_14_method_71_code 9 = .ok (.putfield 67, 3) := by decide +kernel
theorem d_Md_fill_12 : decode prog_14_method_71_code 12 = .ok (.aload_n 0, 1) := by decide +kernel
theorem d_Md_fill_13 : decode prog_14_method_71_code 13 = .ok (.aload_n 0, 1) := by decide +kernel
theorem d_Md_fill_14 : decode prog_14_method_71_code 14 = .ok (.getfield 67, 3) := by decide +kernel
theorem d_Md_fill_17 : decode prog_14_method_71_code 17 = .ok (.ifCond .ne 39, 3) := by decide +kernel
theorem d_Md_fill_20 : decode prog_14_method_71_code 20 = .ok (.iload_n 3, 1) := by decide +kernel
theorem d_Md_fill_21 : decode prog_14_method_71_code 21 = .ok (.iconst 1, 1) := by decide +kernel
theorem d_Md_fill_22 : decode prog_14_method_71_code 22 = .ok (.if_icmp .lt 30, 3) := by decide +kernel
theorem d_Md_fill_25 : decode prog_14_method_71_code 25 = .ok (.iload 4, 2) := by decide +kernel
theorem d_Md_fill_27 : decode prog_14_method_71_code 27 = .ok (.iconst 1, 1) := by decide +kernel
theorem d_Md_fill_28 : decode prog_14_method_71_code 28 = .ok (.if_icmp .lt 24, 3) := by decide +kernel
theorem d_Md_fill_31 : decode prog_14_method_71_code 31 = .ok (.iload_n 3, 1) := by decide +kernel
theorem d_Md_fill_32 : decode prog_14_method_71_code 32 = .ok (.aload_n 0, 1) := by decide +kernel
theorem d_Md_fill_33 : decode prog_14_method_71_code 33 = .ok (.getfield 357, 3) := by decide +kernel
theorem d_Md_fill_36 : decode prog_14_method_71_code 36 = .ok (.iload_n 1, 1) := by decide +kernel
theorem d_Md_fill_37 : decode prog_14_method_71_code 37 = .ok (.isub, 1) := by decide +kernel
theorem d_Md_fill_38 : decode prog_14_method_71_code 38 = .ok (.if_icmp .gt 14, 3) := by decide +kernel
theorem d_Md_fill_41 : decode prog_14_method_71_code 41 = .ok (.iload 4, 2) := by decide +kernel
theorem d_Md_fill_43 : decode prog_14_method_71_code 43 = .ok (.aload_n 0, 1) := by decide +kernel
theorem d_Md_fill_44 : decode prog_14_method_71_code 44 = .ok (.getfield 360, 3) := by decide +kernel
theorem d_Md_fill_47 : decode prog_14_method_71_code 47 = .ok (.iload_n 2, 1) := by decide +kernel
theorem d_Md_fill_48 : decode prog_14_method_71_code 48 = .ok (.isub, 1) := by decide +kernel
theorem d_Md_fill_49 : decode prog_14_method_71_code 49 = .ok (.if_icmp .le 7, 3) := by decide +kernel
theorem d_Md_fill_52 : decode prog_14_method_71_code 52 = .ok (.iconst 2, 1) := by decide +kernel
theorem d_Md_fill_53 : decode prog_14_method_71_code 53 = .ok (.goto 7, 3) := by decide +kernel
theorem d_Md_fill_56 : decode prog_14_method_71_code 56 = .ok (.aload_n 0, 1) := by decide +kernel
theorem d_Md_fill_57 : decode prog_14_method_71_code 57 = .ok (.getfield 67, 3) := by decide +kernel
theorem d_Md_fill_60 : decode prog_14_method_71_code 60 = .ok (.putfield 67, 3) := by decide +kernel
theorem d_Md_fill_63 : decode prog_14_method_71_code 63 = .ok (.aload_n 0, 1) := by decide +kernel
theorem d_Md_fill_64 : decode prog_14_method_71_code 64 = .ok (.aload_n 0, 1) := by decide +kernel
theorem d_Md_fill_65 : decode prog_14_method_71_code 65 = .ok (.getfield 67, 3) := by decide +kernel
theorem d_Md_fill_68 : decode prog_14_method_71_code 68 = .ok (.ifCond .ne 12, 3) := by decide +kernel
theorem d_Md_fill_71 : decode prog_14_method_71_code 71 = .ok (.aload_n 0, 1) := by decide +kernel
theorem d_Md_fill_72 : decode prog_14_method_71_code 72 = .ok (.iload 6, 2) := by decide +kernel
theorem d_Md_fill_74 : decode prog_14_method_71_code 74 = .ok (.invokevirtual 381, 3) := by decide +kernel
theorem d_Md_fill_77 : decode prog_14_method_71_code 77 = .ok (.goto 7, 3) := by decide +kernel
theorem d_Md_fill_80 : decode prog_14_method_71_code 80 = .ok (.aload_n 0, 1) := by decide +kernel
theorem d_Md_fill_81 : decode prog_14_method_71_code 81 = .ok (.getfield 67, 3) := by decide +kernel
theorem d_Md_fill_84 : decode prog_14_method_71_code 84 = .ok (.putfield 67, 3) := by decide +kernel
theorem d_Md_fill_87 : decode prog_14_method_71_code 87 = .ok (.aload_n 0, 1) := by decide +kernel
theorem d_Md_fill_88 : decode prog_14_method_71_code 88 = .ok (.getfield 67, 3) := by decide +kernel
theorem d_Md_fill_91 : decode prog_14_method_71_code 91 = .ok (.ifCond .le 4, 3) := by decide +kernel
theorem d_Md_fill_94 : decode prog_14_method_71_code 94 = .ok (.return_, 1) := by decide +kernel
theorem d_Md_fill_95 : decode prog_14_method_71_code 95 = .ok (.iload_n 1, 1) := by decide +kernel
theorem d_Md_fill_96 : decode prog_14_method_71_code 96 = .ok (.istore 7, 2) := by decide +kernel
theorem d_Md_fill_98 : decode prog_14_method_71_code 98 = .ok (.iload 7, 2) := by decide +kernel
theorem d_Md_fill_100 : decode prog_14_method_71_code 100 = .ok (.iload_n 1, 1) := by decide +kernel
theorem d_Md_fill_101 : decode prog_14_method_71_code 101 = .ok (.iload_n 3, 1) := by decide +kernel
theorem d_Md_fill_102 : decode prog_14_method_71_code 102 = .ok (.iadd, 1) := by decide +kernel
theorem d_Md_fill_103 : decode prog_14_method_71_code 103 = .ok (.if_icmp .ge 55, 3) := by decide +kernel
theorem d_Md_fill_106 : decode prog_14_method_71_code 106 = .ok (.iload_n 2, 1) := by decide +kernel
theorem d_Md_fill_107 : decode prog_14_method_71_code 107 = .ok (.istore 8, 2) := by decide +kernel
theorem d_Md_fill_109 : decode prog_14_method_71_code 109 = .ok (.iload 8, 2) := by decide +kernel
theorem d_Md_fill_111 : decode prog_14_method_71_code 111 = .ok (.iload_n 2, 1) := by decide +kernel
theorem d_Md_fill_112 : decode prog_14_method_71_code 112 = .ok (.iload 4, 2) := by decide +kernel
theorem d_Md_fill_114 : decode prog_14_method_71_code 114 = .ok (.iadd, 1) := by decide +kernel
theorem d_Md_fill_115 : decode prog_14_method_71_code 115 = .ok (.if_icmp .ge 37, 3) := by decide +kernel
theorem d_Md_fill_118 : decode prog_14_method_71_code 118 = .ok (.aload_n 0, 1) := by decide +kernel
theorem d_Md_fill_119 : decode prog_14_method_71_code 119 = .ok (.getfield 14, 3) := by decide +kernel
theorem d_Md_fill_122 : decode prog_14_method_71_code 122 = .ok (.iload 8, 2) := by decide +kernel
theorem d_Md_fill_124 : decode prog_14_method_71_code 124 = .ok (.aload_n 0, 1) := by decide +kernel
theorem d_Md_fill_125 : decode prog_14_method_71_code 125 = .ok (.getfield 357, 3) := by decide +kernel
theorem d_Md_fill_128 : decode prog_14_method_71_code 128 = .ok (.imul, 1) := by decide +kernel
theorem d_Md_fill_129 : decode prog_14_method_71_code 129 = .ok (.iload 7, 2) := by decide +kernel
theorem d_Md_fill_131 : decode prog_14_method_71_code 131 = .ok (.iadd, 1) := by decide +kernel
theorem d_Md_fill_132 : decode prog_14_method_71_code 132 = .ok (.aload_n 0, 1) := by decide +kernel
theorem d_Md_fill_133 : decode prog_14_method_71_code 133 = .ok (.getfield 363, 3) := by decide +kernel
theorem d_Md_fill_136 : decode prog_14_method_71_code 136 = .ok (.invokestatic 119, 3) := by decide +kernel
theorem d_Md_fill_139 : decode prog_14_method_71_code 139 = .ok (.imul, 1) := by decide +kernel
theorem d_Md_fill_140 : decode prog_14_method_71_code 140 = .ok (.iload 5, 2) := by decide +kernel
theorem d_Md_fill_142 : decode prog_14_method_71_code 142 = .ok (.iadd, 1) := by decide +kernel
theorem d_Md_fill_143 : decode prog_14_method_71_code 143 = .ok (.iload 6, 2) := by decide +kernel
theorem d_Md_fill_145 : decode prog_14_method_71_code 145 = .ok (.iastore, 1) := by decide +kernel
theorem d_Md_fill_146 : decode prog_14_method_71_code 146 = .ok (.iinc 8 1, 3) := by decide +kernel
theorem d_Md_fill_149 : decode prog_14_method_71_code 149 = .ok (.goto (-40), 3) := by decide +kernel
theorem d_Md_fill_152 : decode prog_14_method_71_code 152 = .ok (.iinc 7 1, 3) := by decide +kernel
theorem d_Md_fill_155 : decode prog_14_method_71_code 155 = .ok (.goto (-57), 3) := by decide +kernel
theorem d_Md_fill_158 : decode prog_14_method_71_code 158 = .ok (.return_, 1) := by decide +kernel
set_option maxRecDepth 100000 in
set_option maxHeartbeats 4000000 in
theorem c_Md_fill {l0 : Launch} (hl : l0.stackTraces = false) (n : Nat) (ids : List Nat) {t : Nat} (ht : mm_ok ids t 1 12) (a0 : Int32) (a1 : Int32) (a2 : Int32) (a3 : Int32) (a4 : Int32) (a5 : Int32) (σ : Mm) : kw_C l0 y_Md_fill (Cond.code y_Md_fill prog_14_method_71_code 9 none :: kw_Ts) rm_Md_fill kw_ov ids [] [.ref t, .int a0, .int a1, .int a2, .int a3, .int a4, .int a5] σ (F_Md_fill n t a0 a1 a2 a3 a4 a5 σ) := by
  refine kw_start (L0 := [some (.ref t), some (.int a0), some (.int a1), some (.int a2), some (.int a3), some (.int a4), some (.int a5), none, none]) hl (by decide +kernel) (Nat.le_of_ble_eq_true rfl) rfl (fun Γ ad C Ce => ?_)
  unfold F_Md_fill
  refine kw_aload_n C d_Md_fill_0 rfl ?_
  refine kw_aload_n C d_Md_fill_1 rfl ?_
  refine kw_iload_n C d_Md_fill_2 rfl ?_
  refine kw_iload_n C d_Md_fill_3 rfl ?_
  refine kw_iload C d_Md_fill_4 rfl ?_
  refine kw_callVi (cl' := 0) (sl' := 0) (As := [.int a0, .int a1, .int a4]) C (c_Md_pointFault hl n ids ht a0 a1 a4 σ) mi_Md_378 v_Md_pointFault ⟨_, _, rfl⟩ ht ⟨Nat.le_of_ble_eq_true rfl, Nat.le_of_ble_eq_true rfl⟩ (Nat.le_of_ble_eq_true rfl) ⟨Nat.le_of_ble_eq_true rfl, Nat.le_of_ble_eq_true rfl⟩ ⟨rfl, rfl⟩ rfl d_Md_fill_6 (fun x1 σ2 => ?_)
  refine kw_putI C fi_Md_67 rfl ht d_Md_fill_9 (fun σ3 => ?_)
  refine kw_aload_n C d_Md_fill_12 rfl ?_
  refine kw_aload_n C d_Md_fill_13 rfl ?_
  refine kw_getI C fi_Md_67 (Or.inl rfl) ht d_Md_fill_14 ?_
  refine kw_j (α := Int32) (pcj := 60) (Lj := fun x5 => [some (.ref t), some (.int a0), some (.int a1), some (.int a2), some (.int a3), some (.int a4), some (.int a5), none, none]) (stj := fun x5 => [.int x5, .ref t]) (fun x5 σ6 => ?_) (fun k4 hk4 => ?_)
  · refine kw_putI C fi_Md_67 rfl ht d_Md_fill_60 (fun σ7 => ?_)
    refine kw_aload_n C d_Md_fill_63 rfl ?_
    refine kw_aload_n C d_Md_fill_64 rfl ?_
    refine kw_getI C fi_Md_67 (Or.inl rfl) ht d_Md_fill_65 ?_
    refine kw_j (α := Int32) (pcj := 84) (Lj := fun x9 => [some (.ref t), some (.int a0), some (.int a1), some (.int a2), some (.int a3), some (.int a4), some (.int a5), none, none]) (stj := fun x9 => [.int x9, .ref t]) (fun x9 σ10 => ?_) (fun k8 hk8 => ?_)
    · refine kw_putI C fi_Md_67 rfl ht d_Md_fill_84 (fun σ11 => ?_)
      refine kw_aload_n C d_Md_fill_87 rfl ?_
      refine kw_getI C fi_Md_67 (Or.inl rfl) ht d_Md_fill_88 ?_
      refine kw_if_le (tgt := 95) C d_Md_fill_91 (by decide) ?_ ?_
      · refine kw_iload_n C d_Md_fill_95 rfl ?_
        refine kw_istore (L' := [some (.ref t), some (.int a0), some (.int a1), some (.int a2), some (.int a3), some (.int a4), some (.int a5), some (.int a0), none]) C d_Md_fill_96 (by decide) rfl ?_
        refine kw_wk (kw_l (α := Int32) (pc := 98) (Lj := fun x13 => [some (.ref t), some (.int a0), some (.int a1), some (.int a2), some (.int a3), some (.int a4), some (.int a5), some (.int x13), none]) (stj := fun x13 => []) (fun k12 hk12 x13 σ14 => ?_) n a0 σ11) ⟨Or.inr rfl, Or.inr rfl, Or.inr rfl, Or.inr rfl, Or.inr rfl, Or.inr rfl, Or.inr rfl, Or.inr rfl, Or.inl rfl, trivial⟩
        refine kw_iload C d_Md_fill_98 rfl ?_
        refine kw_iload_n C d_Md_fill_100 rfl ?_
        refine kw_iload_n C d_Md_fill_101 rfl ?_
        refine kw_iadd C d_Md_fill_102 ?_
        refine kw_icmp_ge (tgt := 158) C d_Md_fill_103 (by decide) ?_ ?_
        · exact kw_vret C Ce rfl (by simp) (fun _ _ => rfl) (Nat.le_of_ble_eq_true rfl) (Nat.le_of_ble_eq_true rfl) rfl d_Md_fill_158
        · refine kw_iload_n C d_Md_fill_106 rfl ?_
          refine kw_istore (L' := [some (.ref t), some (.int a0), some (.int a1), some (.int a2), some (.int a3), some (.int a4), some (.int a5), some (.int x13), some (.int a1)]) C d_Md_fill_107 (by decide) rfl ?_
          refine kw_wk (kw_l (α := Int32) (pc := 109) (Lj := fun x16 => [some (.ref t), some (.int a0), some (.int a1), some (.int a2), some (.int a3), some (.int a4), some (.int a5), some (.int x13), some (.int x16)]) (stj := fun x16 => []) (fun k15 hk15 x16 σ17 => ?_) n a1 σ14) ⟨Or.inr rfl, Or.inr rfl, Or.inr rfl, Or.inr rfl, Or.inr rfl, Or.inr rfl, Or.inr rfl, Or.inr rfl, Or.inr rfl, trivial⟩
          refine kw_iload C d_Md_fill_109 rfl ?_
          refine kw_iload_n C d_Md_fill_111 rfl ?_
          refine kw_iload C d_Md_fill_112 rfl ?_
          refine kw_iadd C d_Md_fill_114 ?_
          refine kw_icmp_ge (tgt := 152) C d_Md_fill_115 (by decide) ?_ ?_
          · refine kw_iincL (L2 := fun x18 => [some (.ref t), some (.int a0), some (.int a1), some (.int a2), some (.int a3), some (.int a4), some (.int a5), some (.int x18), some (.int x16)]) C d_Md_fill_152 (by decide) rfl (fun _ => rfl) (fun x18 => ?_)
            refine kw_goto (tgt := 98) C d_Md_fill_155 (by decide) ?_
            exact kw_wk (hk12 x18 σ17) ⟨Or.inr rfl, Or.inr rfl, Or.inr rfl, Or.inr rfl, Or.inr rfl, Or.inr rfl, Or.inr rfl, Or.inr rfl, Or.inl rfl, trivial⟩
          · refine kw_aload_n C d_Md_fill_118 rfl ?_
            refine kw_getR C fi_Md_14 rfl rfl ht d_Md_fill_119 (fun o19 ho19 => ?_)
            refine kw_iload C d_Md_fill_122 rfl ?_
            refine kw_aload_n C d_Md_fill_124 rfl ?_
            refine kw_getI C fi_Md_357 (Or.inl rfl) ht d_Md_fill_125 ?_
            refine kw_imul C d_Md_fill_128 ?_
            refine kw_iload C d_Md_fill_129 rfl ?_
            refine kw_iadd C d_Md_fill_131 ?_
            refine kw_aload_n C d_Md_fill_132 rfl ?_
            refine kw_getI C fi_Md_363 (Or.inl rfl) ht d_Md_fill_133 ?_
            refine kw_callSi (cl' := 0) (sl' := 0) (As := [.int (gS σ17 (64 * t + 8))]) C (c_Md_channels hl n ids  (gS σ17 (64 * t + 8)) σ17) mi_Md_119 s_Md_channels ⟨Nat.le_of_ble_eq_true rfl, Nat.le_of_ble_eq_true rfl⟩ (Nat.le_of_ble_eq_true rfl) ⟨Nat.le_of_ble_eq_true rfl, Nat.le_of_ble_eq_true rfl⟩ ⟨rfl, rfl⟩ rfl d_Md_fill_136 (fun x20 σ21 => ?_)
            refine kw_imul C d_Md_fill_139 ?_
            refine kw_iload C d_Md_fill_140 rfl ?_
            refine kw_iadd C d_Md_fill_142 ?_
            refine kw_iload C d_Md_fill_143 rfl ?_
            refine kw_iast C ho19 d_Md_fill_145 (fun σ22 => ?_)
            refine kw_iincL (L2 := fun x23 => [some (.ref t), some (.int a0), some (.int a1), some (.int a2), some (.int a3), some (.int a4), some (.int a5), some (.int x13), some (.int x23)]) C d_Md_fill_146 (by decide) rfl (fun _ => rfl) (fun x23 => ?_)
            refine kw_goto (tgt := 109) C d_Md_fill_149 (by decide) ?_
            exact kw_wk (hk15 x23 σ22) ⟨Or.inr rfl, Or.inr rfl, Or.inr rfl, Or.inr rfl, Or.inr rfl, Or.inr rfl, Or.inr rfl, Or.inr rfl, Or.inr rfl, trivial⟩
      · exact kw_vret C Ce rfl (by simp) (fun _ _ => rfl) (Nat.le_of_ble_eq_true rfl) (Nat.le_of_ble_eq_true rfl) rfl d_Md_fill_94
    · refine kw_if_ne (tgt := 80) C d_Md_fill_68 (by decide) ?_ ?_
      · refine kw_aload_n C d_Md_fill_80 rfl ?_
        refine kw_getI C fi_Md_67 (Or.inl rfl) ht d_Md_fill_81 ?_
        exact kw_wk (hk8 (gS σ7 (64 * t + 0)) σ7) ⟨Or.inr rfl, Or.inr rfl, Or.inr rfl, Or.inr rfl, Or.inr rfl, Or.inr rfl, Or.inr rfl, Or.inl rfl, Or.inl rfl, trivial⟩
      · refine kw_aload_n C d_Md_fill_71 rfl ?_
        refine kw_iload C d_Md_fill_72 rfl ?_
        refine kw_callVi (cl' := 0) (sl' := 0) (As := [.int a5]) C (c_Md_valueFault hl n ids ht a5 σ7) mi_Md_381 v_Md_valueFault ⟨_, _, rfl⟩ ht ⟨Nat.le_of_ble_eq_true rfl, Nat.le_of_ble_eq_true rfl⟩ (Nat.le_of_ble_eq_true rfl) ⟨Nat.le_of_ble_eq_true rfl, Nat.le_of_ble_eq_true rfl⟩ ⟨rfl, rfl⟩ rfl d_Md_fill_74 (fun x24 σ25 => ?_)
        refine kw_goto (tgt := 84) C d_Md_fill_77 (by decide) ?_
        exact kw_wk (hk8 x24 σ25) ⟨Or.inr rfl, Or.inr rfl, Or.inr rfl, Or.inr rfl, Or.inr rfl, Or.inr rfl, Or.inr rfl, Or.inl rfl, Or.inl rfl, trivial⟩
  · refine kw_j (α := Unit) (pcj := 56) (Lj := fun x27 => [some (.ref t), some (.int a0), some (.int a1), some (.int a2), some (.int a3), some (.int a4), some (.int a5), none, none]) (stj := fun x27 => [.ref t]) (fun x27 σ28 => ?_) (fun k26 hk26 => ?_)
    · refine kw_aload_n C d_Md_fill_56 rfl ?_
      refine kw_getI C fi_Md_67 (Or.inl rfl) ht d_Md_fill_57 ?_
      exact kw_wk (hk4 (gS σ28 (64 * t + 0)) σ28) ⟨Or.inr rfl, Or.inr rfl, Or.inr rfl, Or.inr rfl, Or.inr rfl, Or.inr rfl, Or.inr rfl, Or.inl rfl, Or.inl rfl, trivial⟩
    · refine kw_if_ne (tgt := 56) C d_Md_fill_17 (by decide) ?_ ?_
      · exact kw_wk (hk26 () σ3) ⟨Or.inr rfl, Or.inr rfl, Or.inr rfl, Or.inr rfl, Or.inr rfl, Or.inr rfl, Or.inr rfl, Or.inl rfl, Or.inl rfl, trivial⟩
      · refine kw_iload_n C d_Md_fill_20 rfl ?_
        refine kw_iconst (v := 1) C d_Md_fill_21 (by decide) ?_
        refine kw_j (α := Unit) (pcj := 52) (Lj := fun x30 => [some (.ref t), some (.int a0), some (.int a1), some (.int a2), some (.int a3), some (.int a4), some (.int a5), none, none]) (stj := fun x30 => [.ref t]) (fun x30 σ31 => ?_) (fun k29 hk29 => ?_)
        · refine kw_iconst (v := 2) C d_Md_fill_52 (by decide) ?_
          refine kw_goto (tgt := 60) C d_Md_fill_53 (by decide) ?_
          exact kw_wk (hk4 2 σ31) ⟨Or.inr rfl, Or.inr rfl, Or.inr rfl, Or.inr rfl, Or.inr rfl, Or.inr rfl, Or.inr rfl, Or.inl rfl, Or.inl rfl, trivial⟩
        · refine kw_icmp_lt (tgt := 52) C d_Md_fill_22 (by decide) ?_ ?_
          · exact kw_wk (hk29 () σ3) ⟨Or.inr rfl, Or.inr rfl, Or.inr rfl, Or.inr rfl, Or.inr rfl, Or.inr rfl, Or.inr rfl, Or.inl rfl, Or.inl rfl, trivial⟩
          · refine kw_iload C d_Md_fill_25 rfl ?_
            refine kw_iconst (v := 1) C d_Md_fill_27 (by decide) ?_
            refine kw_icmp_lt (tgt := 52) C d_Md_fill_28 (by decide) ?_ ?_
            · exact kw_wk (hk29 () σ3) ⟨Or.inr rfl, Or.inr rfl, Or.inr rfl, Or.inr rfl, Or.inr rfl, Or.inr rfl, Or.inr rfl, Or.inl rfl, Or.inl rfl, trivial⟩
            · refine kw_iload_n C d_Md_fill_31 rfl ?_
              refine kw_aload_n C d_Md_fill_32 rfl ?_
              refine kw_getI C fi_Md_357 (Or.inl rfl) ht d_Md_fill_33 ?_
              refine kw_iload_n C d_Md_fill_36 rfl ?_
              refine kw_isub C d_Md_fill_37 ?_
              refine kw_icmp_gt (tgt := 52) C d_Md_fill_38 (by decide) ?_ ?_
              · exact kw_wk (hk29 () σ3) ⟨Or.inr rfl, Or.inr rfl, Or.inr rfl, Or.inr rfl, Or.inr rfl, Or.inr rfl, Or.inr rfl, Or.inl rfl, Or.inl rfl, trivial⟩
              · refine kw_iload C d_Md_fill_41 rfl ?_
                refine kw_aload_n C d_Md_fill_43 rfl ?_
                refine kw_getI C fi_Md_360 (Or.inl rfl) ht d_Md_fill_44 ?_
                refine kw_iload_n C d_Md_fill_47 rfl ?_
                refine kw_isub C d_Md_fill_48 ?_
                refine kw_icmp_le (tgt := 56) C d_Md_fill_49 (by decide) ?_ ?_
                · exact kw_wk (hk26 () σ3) ⟨Or.inr rfl, Or.inr rfl, Or.inr rfl, Or.inr rfl, Or.inr rfl, Or.inr rfl, Or.inr rfl, Or.inl rfl, Or.inl rfl, trivial⟩
                · exact kw_wk (hk29 () σ3) ⟨Or.inr rfl, Or.inr rfl, Or.inr rfl, Or.inr rfl, Or.inr rfl, Or.inr rfl, Or.inr rfl, Or.inl rfl, Or.inl rfl, trivial⟩
/-! Md_colour -/
def rm_Md_colour : Room := { frames := 0, cells := 0, slots := 0, locals := 0 }
def F_Md_colour (n : Nat) (t : Nat) (a0 : Int32) (a1 : Int32) (a2 : Int32) (σ : Mm) : Option (Int32 × Mm) :=
kf_j (α := Int32) (fun x2 σ3 =>
kf_let (pS σ3 (64 * t + 0) x2) fun σ4 =>
if (gS σ4 (64 * t + 0)) ≤ 0 then (
Option.bind (gR σ4 (64 * t + 12)) fun o5 =>
kf_in ((3 : Int32) * (gS σ4 (64 * t + 13))) (mm_kd o5).2.2 <| kf_let (pB σ4 o5 ((3 : Int32) * (gS σ4 (64 * t + 13))).toNatClampNeg (a0 &&& 255)) fun σ6 =>
Option.bind (gR σ6 (64 * t + 12)) fun o7 =>
kf_in (((3 : Int32) * (gS σ6 (64 * t + 13))) + 1) (mm_kd o7).2.2 <| kf_let (pB σ6 o7 (((3 : Int32) * (gS σ6 (64 * t + 13))) + 1).toNatClampNeg (a1 &&& 255)) fun σ8 =>
Option.bind (gR σ8 (64 * t + 12)) fun o9 =>
kf_in (((3 : Int32) * (gS σ8 (64 * t + 13))) + 2) (mm_kd o9).2.2 <| kf_let (pB σ8 o9 (((3 : Int32) * (gS σ8 (64 * t + 13))) + 2).toNatClampNeg (a2 &&& 255)) fun σ10 =>
kf_let (pS σ10 (64 * t + 13) ((gS σ10 (64 * t + 13)) + 1)) fun σ11 =>
some (gS σ11 (64 * t + 13), σ11)) else (
some (0, σ4))) fun k1 =>
if (gS σ (64 * t + 5)) = 0 then (
k1 1 σ) else (
kf_j (α := Unit) (fun x13 σ14 =>
k1 2 σ14) fun k12 =>
if (gS σ (64 * t + 8)) = 0 then (
k12 () σ) else (
if (gS σ (64 * t + 8)) = 4 then (
k12 () σ) else (
kf_j (α := Unit) (fun x16 σ17 =>
k1 3 σ17) fun k15 =>
if (gS σ (64 * t + 13)) = 256 then (
k15 () σ) else (
kf_j (α := Unit) (fun x19 σ20 =>
k1 0 σ20) fun k18 =>
if (gS σ (64 * t + 8)) = 3 then (
if (gS σ (64 * t + 13)) = ((1 : Int32) <<< ((gS σ (64 * t + 9)) &&& 31)) then (
k15 () σ) else (
k18 () σ)) else (
k18 () σ)))))
theorem d_Md_colour_0 : decode prog_14_method_72_code 0 = .ok (.aload_n 0, 1) := by decide +kernel
theorem d_Md_colour_1 : decode prog_14_method_72_code 1 = .ok (.aload_n 0, 1) := by decide +kernel
theorem d_Md_colour_2 : decode prog_14_method_72_code 2 = .ok (.getfield 354, 3) := by decide +kernel
theorem d_Md_colour_5 : decode prog_14_method_72_code 5 = .ok (.ifCond .ne 7, 3) := by decide +kernel
theorem d_Md_colour_8 : decode prog_14_method_72_code 8 = .ok (.iconst 1, 1) := by decide +kernel
theorem d_Md_colour_9 : decode prog_14_method_72_code 9 = .ok (.goto 58, 3) := by decide +kernel
theorem d_Md_colour_12 : decode prog_14_method_72_code 12 = .ok (.aload_n 0, 1) := by decide +kernel
theorem d_Md_colour_13 : decode prog_14_method_72_code 13 = .ok (.getfield 363, 3) := by decide +kernel
theorem d_Md_colour_16 : decode prog_14_method_72_code 16 = .ok (.ifCond .eq 11, 3) := by decide +kernel
theorem d_Md_colour_19 : decode prog_14_method_72_code 19 = .ok (.aload_n 0, 1) := by decide +kernel
theorem d_Md_colour_20 : decode prog_14_method_72_code 20 = .ok (.getfield 363, 3) := by decide +kernel
theorem d_Md_colour_23 : decode prog_14_method_72_code 23 = .ok (.iconst 4, 1) := by decide +kernel
theorem d_Md_colour_24 : decode prog_14_method_72_code 24 = .ok (.if_icmp .ne 7, 3) := by decide +kernel
theorem d_Md_colour_27 : decode prog_14_method_72_code 27 = .ok (.iconst 2, 1) := by decide +kernel
theorem d_Md_colour_28 : decode prog_14_method_72_code 28 = .ok (.goto 39, 3) := by decide +kernel
theorem d_Md_colour_31 : decode prog_14_method_72_code 31 = .ok (.aload_n 0, 1) := by decide +kernel
theorem d_Md_colour_32 : decode prog_14_method_72_code 32 = .ok (.getfield 372, 3) := by decide +kernel
theorem d_Md_colour_35 : decode prog_14_method_72_code 35 = .ok (.sipush 256, 3) := by decide +kernel
theorem d_Md_colour_38 : decode prog_14_method_72_code 38 = .ok (.if_icmp .eq 24, 3) := by decide +kernel
theorem d_Md_colour_41 : decode prog_14_method_72_code 41 = .ok (.aload_n 0, 1) := by decide +kernel
theorem d_Md_colour_42 : decode prog_14_method_72_code 42 = .ok (.getfield 363, 3) := by decide +kernel
theorem d_Md_colour_45 : decode prog_14_method_72_code 45 = .ok (.iconst 3, 1) := by decide +kernel
theorem d_Md_colour_46 : decode prog_14_method_72_code 46 = .ok (.if_icmp .ne 20, 3) := by decide +kernel
theorem d_Md_colour_49 : decode prog_14_method_72_code 49 = .ok (.aload_n 0, 1) := by decide +kernel
theorem d_Md_colour_50 : decode prog_14_method_72_code 50 = .ok (.getfield 372, 3) := by decide +kernel
theorem d_Md_colour_53 : decode prog_14_method_72_code 53 = .ok (.iconst 1, 1) := by decide +kernel
theorem d_Md_colour_54 : decode prog_14_method_72_code 54 = .ok (.aload_n 0, 1) := by decide +kernel
theorem d_Md_colour_55 : decode prog_14_method_72_code 55 = .ok (.getfield 366, 3) := by decide +kernel
theorem d_Md_colour_58 : decode prog_14_method_72_code 58 = .ok (.ishl, 1) := by decide +kernel
theorem d_Md_colour_59 : decode prog_14_method_72_code 59 = .ok (.if_icmp .ne 7, 3) := by decide +kernel
theorem d_Md_colour_62 : decode prog_14_method_72_code 62 = .ok (.iconst 3, 1) := by decide +kernel
theorem d_Md_colour_63 : decode prog_14_method_72_code 63 = .ok (.goto 4, 3) := by decide +kernel
theorem d_Md_colour_66 : decode prog_14_method_72_code 66 = .ok (.iconst 0, 1) := by decide +kernel
theorem d_Md_colour_67 : decode prog_14_method_72_code 67 = .ok (.putfield 67, 3) := by decide +kernel
theorem d_Md_colour_70 : decode prog_14_method_72_code 70 = .ok (.aload_n 0, 1) := by decide +kernel
theorem d_Md_colour_71 : decode prog_14_method_72_code 71 = .ok (.getfield 67, 3) := by decide +kernel
theorem d_Md_colour_74 : decode prog_14_method_72_code 74 = .ok (.ifCond .le 5, 3) := by decide +kernel
theorem d_Md_colour_77 : decode prog_14_method_72_code 77 = .ok (.iconst 0, 1) := by decide +kernel
theorem d_Md_colour_78 : decode prog_14_method_72_code 78 = .ok (.ireturn, 1) := by decide +kernel
theorem d_Md_colour_79 : decode prog_14_method_72_code 79 = .ok (.aload_n 0, 1) := by decide +kernel
theorem d_Md_colour_80 : decode prog_14_method_72_code 80 = .ok (.getfield 18, 3) := by decide +kernel
theorem d_Md_colour_83 : decode prog_14_method_72_code 83 = .ok (.iconst 3, 1) := by decide +kernel
theorem d_Md_colour_84 : decode prog_14_method_72_code 84 = .ok (.aload_n 0, 1) := by decide +kernel
theorem d_Md_colour_85 : decode prog_14_method_72_code 85 = .ok (.getfield 372, 3) := by decide +kernel
theorem d_Md_colour_88 : decode prog_14_method_72_code 88 = .ok (.imul, 1) := by decide +kernel
theorem d_Md_colour_89 : decode prog_14_method_72_code 89 = .ok (.iload_n 1, 1) := by decide +kernel
theorem d_Md_colour_90 : decode prog_14_method_72_code 90 = .ok (.sipush 255, 3) := by decide +kernel
theorem d_Md_colour_93 : decode prog_14_method_72_code 93 = .ok (.iand, 1) := by decide +kernel
theorem d_Md_colour_94 : decode prog_14_method_72_code 94 = .ok (.iastore, 1) := by decide +kernel
theorem d_Md_colour_95 : decode prog_14_method_72_code 95 = .ok (.aload_n 0, 1) := by decide +kernel
theorem d_Md_colour_96 : decode prog_14_method_72_code 96 = .ok (.getfield 18, 3) := by decide +kernel
theorem d_Md_colour_99 : decode prog_14_method_72_code 99 = .ok (.iconst 3, 1) := by decide +kernel
theorem d_Md_colour_100 : decode prog_14_method_72_code 100 = .ok (.aload_n 0, 1) := by decide +kernel
theorem d_Md_colour_101 : decode prog_14_method_72_code 101 = .ok (.getfield 372, 3) := by decide +kernel
theorem d_Md_colour_104 : decode prog_14_method_72_code 104 = .ok (.imul, 1) := by decide +kernel
theorem d_Md_colour_105 : decode prog_14_method_72_code 105 = .ok (.iconst 1, 1) := by decide +kernel
theorem d_Md_colour_106 : decode prog_14_method_72_code 106 = .ok (.iadd, 1) := by decide +kernel
theorem d_Md_colour_107 : decode prog_14_method_72_code 107 = .ok (.iload_n 2, 1) := by decide +kernel
theorem d_Md_colour_108 : decode prog_14_method_72_code 108 = .ok (.sipush 255, 3) := by decide +kernel
theorem d_Md_colour_111 : decode prog_14_method_72_code 111 = .ok (.iand, 1) := by decide +kernel
theorem d_Md_colour_112 : decode prog_14_method_72_code 112 = .ok (.iastore, 1) := by decide +kernel
theorem d_Md_colour_113 : decode prog_14_method_72_code 113 = .ok (.aload_n 0, 1) := by decide +kernel
theorem d_Md_colour_114 : decode prog_14_method_72_code 114 = .ok (.getfield 18, 3) := by decide +kernel
theorem d_Md_colour_117 : decode prog_14_method_72_code 117 = .ok (.iconst 3, 1) := by decide +kernel
theorem d_Md_colour_118 : decode prog_14_method_72_code 118 = .ok (.aload_n 0, 1) := by decide +kernel
theorem d_Md_colour_119 : decode prog_14_method_72_code 119 = .ok (.getfield 372, 3) := by decide +kernel
theorem d_Md_colour_122 : decode prog_14_method_72_code 122 = .ok (.imul, 1) := by decide +kernel
theorem d_Md_colour_123 : decode prog_14_method_72_code 123 = .ok (.iconst 2, 1) := by decide +kernel
theorem d_Md_colour_124 : decode prog_14_method_72_code 124 = .ok (.iadd, 1) := by decide +kernel
theorem d_Md_colour_125 : decode prog_14_method_72_code 125 = .ok (.iload_n 3, 1) := by decide +kernel
theorem d_Md_colour_126 : decode prog_14_method_72_code 126 = .ok (.sipush 255, 3) := by decide +kernel
theorem d_Md_colour_129 : decode prog_14_method_72_code 129 = .ok (.iand, 1) := by decide +kernel
theorem d_Md_colour_130 : decode prog_14_method_72_code 130 = .ok (.iastore, 1) := by decide +kernel
theorem d_Md_colour_131 : decode prog_14_method_72_code 131 = .ok (.aload_n 0, 1) := by decide +kernel
theorem d_Md_colour_132 : decode prog_14_method_72_code 132 = .ok (.dup, 1) := by decide +kernel
theorem d_Md_colour_133 : decode prog_14_method_72_code 133 = .ok (.getfield 372, 3) := by decide +kernel
theorem d_Md_colour_136 : decode prog_14_method_72_code 136 = .ok (.iconst 1, 1) := by decide +kernel
theorem d_Md_colour_137 : decode prog_14_method_72_code 137 = .ok (.iadd, 1) := by decide +kernel
theorem d_Md_colour_138 : decode prog_14_method_72_code 138 = .ok (.putfield 372, 3) := by decide +kernel
theorem d_Md_colour_141 : decode prog_14_method_72_code 141 = .ok (.aload_n 0, 1) := by decide +kernel
theorem d_Md_colour_142 : decode prog_14_method_72_code 142 = .ok (.getfield 372, 3) := by decide +kernel
theorem d_Md_colour_145 : decode prog_14_method_72_code 145 = .ok (.ireturn, 1) := by decide +kernel
set_option maxRecDepth 100000 in
set_option maxHeartbeats 4000000 in
theorem c_Md_colour {l0 : Launch} (hl : l0.stackTraces = false) (n : Nat) (ids : List Nat) {t : Nat} (ht : mm_ok ids t 1 12) (a0 : Int32) (a1 : Int32) (a2 : Int32) (σ : Mm) : kw_C l0 y_Md_colour (Cond.code y_Md_colour prog_14_method_72_code 4 (some .int) :: kw_Ts) rm_Md_colour kw_oi ids [] [.ref t, .int a0, .int a1, .int a2] σ (F_Md_colour n t a0 a1 a2 σ) := by
  refine kw_start (L0 := [some (.ref t), some (.int a0), some (.int a1), some (.int a2)]) hl (by decide +kernel) (Nat.le_of_ble_eq_true rfl) rfl (fun Γ ad C Ce => ?_)
  unfold F_Md_colour
  refine kw_aload_n C d_Md_colour_0 rfl ?_
  refine kw_aload_n C d_Md_colour_1 rfl ?_
  refine kw_getI C fi_Md_354 (Or.inr rfl) ht d_Md_colour_2 ?_
  refine kw_j (α := Int32) (pcj := 67) (Lj := fun x2 => [some (.ref t), some (.int a0), some (.int a1), some (.int a2)]) (stj := fun x2 => [.int x2, .ref t]) (fun x2 σ3 => ?_) (fun k1 hk1 => ?_)
  · refine kw_putI C fi_Md_67 rfl ht d_Md_colour_67 (fun σ4 => ?_)
    refine kw_aload_n C d_Md_colour_70 rfl ?_
    refine kw_getI C fi_Md_67 (Or.inl rfl) ht d_Md_colour_71 ?_
    refine kw_if_le (tgt := 79) C d_Md_colour_74 (by decide) ?_ ?_
    · refine kw_aload_n C d_Md_colour_79 rfl ?_
      refine kw_getR C fi_Md_18 rfl rfl ht d_Md_colour_80 (fun o5 ho5 => ?_)
      refine kw_iconst (v := 3) C d_Md_colour_83 (by decide) ?_
      refine kw_aload_n C d_Md_colour_84 rfl ?_
      refine kw_getI C fi_Md_372 (Or.inl rfl) ht d_Md_colour_85 ?_
      refine kw_imul C d_Md_colour_88 ?_
      refine kw_iload_n C d_Md_colour_89 rfl ?_
      refine kw_sipush (v := 255) C d_Md_colour_90 (by decide) ?_
      refine kw_iand C d_Md_colour_93 ?_
      refine kw_iast C ho5 d_Md_colour_94 (fun σ6 => ?_)
      refine kw_aload_n C d_Md_colour_95 rfl ?_
      refine kw_getR C fi_Md_18 rfl rfl ht d_Md_colour_96 (fun o7 ho7 => ?_)
      refine kw_iconst (v := 3) C d_Md_colour_99 (by decide) ?_
      refine kw_aload_n C d_Md_colour_100 rfl ?_
      refine kw_getI C fi_Md_372 (Or.inl rfl) ht d_Md_colour_101 ?_
      refine kw_imul C d_Md_colour_104 ?_
      refine kw_iconst (v := 1) C d_Md_colour_105 (by decide) ?_
      refine kw_iadd C d_Md_colour_106 ?_
      refine kw_iload_n C d_Md_colour_107 rfl ?_
      refine kw_sipush (v := 255) C d_Md_colour_108 (by decide) ?_
      refine kw_iand C d_Md_colour_111 ?_
      refine kw_iast C ho7 d_Md_colour_112 (fun σ8 => ?_)
      refine kw_aload_n C d_Md_colour_113 rfl ?_
      refine kw_getR C fi_Md_18 rfl rfl ht d_Md_colour_114 (fun o9 ho9 => ?_)
      refine kw_iconst (v := 3) C d_Md_colour_117 (by decide) ?_
      refine kw_aload_n C d_Md_colour_118 rfl ?_
      refine kw_getI C fi_Md_372 (Or.inl rfl) ht d_Md_colour_119 ?_
      refine kw_imul C d_Md_colour_122 ?_
      refine kw_iconst (v := 2) C d_Md_colour_123 (by decide) ?_
      refine kw_iadd C d_Md_colour_124 ?_
      refine kw_iload_n C d_Md_colour_125 rfl ?_
      refine kw_sipush (v := 255) C d_Md_colour_126 (by decide) ?_
      refine kw_iand C d_Md_colour_129 ?_
      refine kw_iast C ho9 d_Md_colour_130 (fun σ10 => ?_)
      refine kw_aload_n C d_Md_colour_131 rfl ?_
      refine kw_dup C d_Md_colour_132 rfl ?_
      refine kw_getI C fi_Md_372 (Or.inl rfl) ht d_Md_colour_133 ?_
      refine kw_iconst (v := 1) C d_Md_colour_136 (by decide) ?_
      refine kw_iadd C d_Md_colour_137 ?_
      refine kw_putI C fi_Md_372 rfl ht d_Md_colour_138 (fun σ11 => ?_)
      refine kw_aload_n C d_Md_colour_141 rfl ?_
      refine kw_getI C fi_Md_372 (Or.inl rfl) ht d_Md_colour_142 ?_
      exact kw_iret C Ce rfl (by simp) (fun _ _ => rfl) (Nat.le_of_ble_eq_true rfl) (Nat.le_of_ble_eq_true rfl) rfl d_Md_colour_145
    · refine kw_iconst (v := 0) C d_Md_colour_77 (by decide) ?_
      exact kw_iret C Ce rfl (by simp) (fun _ _ => rfl) (Nat.le_of_ble_eq_true rfl) (Nat.le_of_ble_eq_true rfl) rfl d_Md_colour_78
  · refine kw_if_ne (tgt := 12) C d_Md_colour_5 (by decide) ?_ ?_
    · refine kw_aload_n C d_Md_colour_12 rfl ?_
      refine kw_getI C fi_Md_363 (Or.inl rfl) ht d_Md_colour_13 ?_
      refine kw_j (α := Unit) (pcj := 27) (Lj := fun x13 => [some (.ref t), some (.int a0), some (.int a1), some (.int a2)]) (stj := fun x13 => [.ref t]) (fun x13 σ14 => ?_) (fun k12 hk12 => ?_)
      · refine kw_iconst (v := 2) C d_Md_colour_27 (by decide) ?_
        refine kw_goto (tgt := 67) C d_Md_colour_28 (by decide) ?_
        exact kw_wk (hk1 2 σ14) ⟨Or.inr rfl, Or.inr rfl, Or.inr rfl, Or.inr rfl, trivial⟩
      · refine kw_if_eq (tgt := 27) C d_Md_colour_16 (by decide) ?_ ?_
        · exact kw_wk (hk12 () σ) ⟨Or.inr rfl, Or.inr rfl, Or.inr rfl, Or.inr rfl, trivial⟩
        · refine kw_aload_n C d_Md_colour_19 rfl ?_
          refine kw_getI C fi_Md_363 (Or.inl rfl) ht d_Md_colour_20 ?_
          refine kw_iconst (v := 4) C d_Md_colour_23 (by decide) ?_
          refine kw_icmp_ne (tgt := 31) C d_Md_colour_24 (by decide) ?_ ?_
          · refine kw_aload_n C d_Md_colour_31 rfl ?_
            refine kw_getI C fi_Md_372 (Or.inl rfl) ht d_Md_colour_32 ?_
            refine kw_sipush (v := 256) C d_Md_colour_35 (by decide) ?_
            refine kw_j (α := Unit) (pcj := 62) (Lj := fun x16 => [some (.ref t), some (.int a0), some (.int a1), some (.int a2)]) (stj := fun x16 => [.ref t]) (fun x16 σ17 => ?_) (fun k15 hk15 => ?_)
            · refine kw_iconst (v := 3) C d_Md_colour_62 (by decide) ?_
              refine kw_goto (tgt := 67) C d_Md_colour_63 (by decide) ?_
              exact kw_wk (hk1 3 σ17) ⟨Or.inr rfl, Or.inr rfl, Or.inr rfl, Or.inr rfl, trivial⟩
            · refine kw_icmp_eq (tgt := 62) C d_Md_colour_38 (by decide) ?_ ?_
              · exact kw_wk (hk15 () σ) ⟨Or.inr rfl, Or.inr rfl, Or.inr rfl, Or.inr rfl, trivial⟩
              · refine kw_aload_n C d_Md_colour_41 rfl ?_
                refine kw_getI C fi_Md_363 (Or.inl rfl) ht d_Md_colour_42 ?_
                refine kw_iconst (v := 3) C d_Md_colour_45 (by decide) ?_
                refine kw_j (α := Unit) (pcj := 66) (Lj := fun x19 => [some (.ref t), some (.int a0), some (.int a1), some (.int a2)]) (stj := fun x19 => [.ref t]) (fun x19 σ20 => ?_) (fun k18 hk18 => ?_)
                · refine kw_iconst (v := 0) C d_Md_colour_66 (by decide) ?_
                  exact kw_wk (hk1 0 σ20) ⟨Or.inr rfl, Or.inr rfl, Or.inr rfl, Or.inr rfl, trivial⟩
                · refine kw_icmp_ne (tgt := 66) C d_Md_colour_46 (by decide) ?_ ?_
                  · exact kw_wk (hk18 () σ) ⟨Or.inr rfl, Or.inr rfl, Or.inr rfl, Or.inr rfl, trivial⟩
                  · refine kw_aload_n C d_Md_colour_49 rfl ?_
                    refine kw_getI C fi_Md_372 (Or.inl rfl) ht d_Md_colour_50 ?_
                    refine kw_iconst (v := 1) C d_Md_colour_53 (by decide) ?_
                    refine kw_aload_n C d_Md_colour_54 rfl ?_
                    refine kw_getI C fi_Md_366 (Or.inl rfl) ht d_Md_colour_55 ?_
                    refine kw_ishl C d_Md_colour_58 ?_
                    refine kw_icmp_ne (tgt := 66) C d_Md_colour_59 (by decide) ?_ ?_
                    · exact kw_wk (hk18 () σ) ⟨Or.inr rfl, Or.inr rfl, Or.inr rfl, Or.inr rfl, trivial⟩
                    · exact kw_wk (hk15 () σ) ⟨Or.inr rfl, Or.inr rfl, Or.inr rfl, Or.inr rfl, trivial⟩
          · exact kw_wk (hk12 () σ) ⟨Or.inr rfl, Or.inr rfl, Or.inr rfl, Or.inr rfl, trivial⟩
    · refine kw_iconst (v := 1) C d_Md_colour_8 (by decide) ?_
      refine kw_goto (tgt := 67) C d_Md_colour_9 (by decide) ?_
      exact kw_wk (hk1 1 σ) ⟨Or.inr rfl, Or.inr rfl, Or.inr rfl, Or.inr rfl, trivial⟩
/-! Md_ofColour -/
def rm_Md_ofColour : Room := { frames := 0, cells := 0, slots := 0, locals := 0 }
def F_Md_ofColour (n : Nat) (t : Nat) (a0 : Int32) (a1 : Int32) (σ : Mm) : Option (Int32 × Mm) :=
kf_j (α := Int32) (fun x2 σ3 =>
kf_let (pS σ3 (64 * t + 0) x2) fun σ4 =>
kf_j (α := Int32) (fun x6 σ7 =>
some (x6, σ7)) fun k5 =>
if (gS σ4 (64 * t + 0)) ≤ 0 then (
Option.bind (gR σ4 (64 * t + 12)) fun o8 =>
kf_let (((3 : Int32) * a0) + a1 : Int32) fun x9 =>
kf_in x9 (mm_kd o8).2.2 <|
k5 (gB σ4 o8 x9.toNatClampNeg) σ4) else (
k5 0 σ4)) fun k1 =>
if (gS σ (64 * t + 5)) = 0 then (
k1 1 σ) else (
kf_j (α := Unit) (fun x11 σ12 =>
k1 2 σ12) fun k10 =>
if a0 < 0 then (
k10 () σ) else (
if (gS σ (64 * t + 13)) ≤ a0 then (
k10 () σ) else (
if a1 < 0 then (
k10 () σ) else (
if a1 ≤ 2 then (
k1 0 σ) else (
k10 () σ)))))
theorem d_Md_ofColour_0 : decode prog_14_method_73_code 0 = .ok (.aload_n 0, 1) := by decide +kernel
theorem d_Md_ofColour_1 : decode prog_14_method_73_code 1 = .ok (.aload_n 0, 1) := by decide +kernel
theorem d_Md_ofColour_2 : decode prog_14_method_73_code 2 = .ok (.getfield 354, 3) := by decide +kernel
theorem d_Md_ofColour_5 : decode prog_14_method_73_code 5 = .ok (.ifCond .ne 7, 3) := by decide +kernel
theorem d_Md_ofColour_8 : decode prog_14_method_73_code 8 = .ok (.iconst 1, 1) := by decide +kernel
theorem d_Md_ofColour_9 : decode prog_14_method_73_code 9 = .ok (.goto 29, 3) := by decide +kernel
theorem d_Md_ofColour_12 : decode prog_14_method_73_code 12 = .ok (.iload_n 1, 1) := by decide +kernel
theorem d_Md_ofColour_13 : decode prog_14_method_73_code 13 = .ok (.ifCond .lt 20, 3) := by decide +kernel
theorem d_Md_ofColour_16 : decode prog_14_method_73_code 16 = .ok (.iload_n 1, 1) := by decide +kernel
theorem d_Md_ofColour_17 : decode prog_14_method_73_code 17 = .ok (.aload_n 0, 1) := by decide +kernel
theorem d_Md_ofColour_18 : decode prog_14_method_73_code 18 = .ok (.getfield 372, 3) := by decide +kernel
theorem d_Md_ofColour_21 : decode prog_14_method_73_code 21 = .ok (.if_icmp .ge 12, 3) := by decide +kernel
theorem d_Md_ofColour_24 : decode prog_14_method_73_code 24 = .ok (.iload_n 2, 1) := by decide +kernel
theorem d_Md_ofColour_25 : decode prog_14_method_73_code 25 = .ok (.ifCond .lt 8, 3) := by decide +kernel
theorem d_Md_ofColour_28 : decode prog_14_method_73_code 28 = .ok (.iload_n 2, 1) := by decide +kernel
theorem d_Md_ofColour_29 : decode prog_14_method_73_code 29 = .ok (.iconst 2, 1) := by decide +kernel
theorem d_Md_ofColour_30 : decode prog_14_method_73_code 30 = .ok (.if_icmp .le 7, 3) := by decide +kernel
theorem d_Md_ofColour_33 : decode prog_14_method_73_code 33 = .ok (.iconst 2, 1) := by decide +kernel
theorem d_Md_ofColour_34 : decode prog_14_method_73_code 34 = .ok (.goto 4, 3) := by decide +kernel
theorem d_Md_ofColour_37 : decode prog_14_method_73_code 37 = .ok (.iconst 0, 1) := by decide +kernel
theorem d_Md_ofColour_38 : decode prog_14_method_73_code 38 = .ok (.putfield 67, 3) := by decide +kernel
theorem d_Md_ofColour_41 : decode prog_14_method_73_code 41 = .ok (.aload_n 0, 1) := by decide +kernel
theorem d_Md_ofColour_42 : decode prog_14_method_73_code 42 = .ok (.getfield 67, 3) := by decide +kernel
theorem d_Md_ofColour_45 : decode prog_14_method_73_code 45 = .ok (.ifCond .le 7, 3) := by decide +kernel
theorem d_Md_ofColour_48 : decode prog_14_method_73_code 48 = .ok (.iconst 0, 1) := by decide +kernel
theorem d_Md_ofColour_49 : decode prog_14_method_73_code 49 = .ok (.goto 13, 3) := by decide +kernel
theorem d_Md_ofColour_52 : decode prog_14_method_73_code 52 = .ok (.aload_n 0, 1) := by decide +kernel
theorem d_Md_ofColour_53 : decode prog_14_method_73_code 53 = .ok (.getfield 18, 3) := by decide +kernel
theorem d_Md_ofColour_56 : decode prog_14_method_73_code 56 = .ok (.iconst 3, 1) := by decide +kernel
theorem d_Md_ofColour_57 : decode prog_14_method_73_code 57 = .ok (.iload_n 1, 1) := by decide +kernel
theorem d_Md_ofColour_58 : decode prog_14_method_73_code 58 = .ok (.imul, 1) := by decide +kernel
theorem d_Md_ofColour_59 : decode prog_14_method_73_code 59 = .ok (.iload_n 2, 1) := by decide +kernel
theorem d_Md_ofColour_60 : decode prog_14_method_73_code 60 = .ok (.iadd, 1) := by decide +kernel
theorem d_Md_ofColour_61 : decode prog_14_method_73_code 61 = .ok (.iaload, 1) := by decide +kernel
theorem d_Md_ofColour_62 : decode prog_14_method_73_code 62 = .ok (.ireturn, 1) := by decide +kernel
set_option maxRecDepth 100000 in
set_option maxHeartbeats 4000000 in
theorem c_Md_ofColour {l0 : Launch} (hl : l0.stackTraces = false) (n : Nat) (ids : List Nat) {t : Nat} (ht : mm_ok ids t 1 12) (a0 : Int32) (a1 : Int32) (σ : Mm) : kw_C l0 y_Md_ofColour (Cond.code y_Md_ofColour prog_14_method_73_code 3 (some .int) :: kw_Ts) rm_Md_ofColour kw_oi ids [] [.ref t, .int a0, .int a1] σ (F_Md_ofColour n t a0 a1 σ) := by
  refine kw_start (L0 := [some (.ref t), some (.int a0), some (.int a1)]) hl (by decide +kernel) (Nat.le_of_ble_eq_true rfl) rfl (fun Γ ad C Ce => ?_)
  unfold F_Md_ofColour
  refine kw_aload_n C d_Md_ofColour_0 rfl ?_
  refine kw_aload_n C d_Md_ofColour_1 rfl ?_
  refine kw_getI C fi_Md_354 (Or.inr rfl) ht d_Md_ofColour_2 ?_
  refine kw_j (α := Int32) (pcj := 38) (Lj := fun x2 => [some (.ref t), some (.int a0), some (.int a1)]) (stj := fun x2 => [.int x2, .ref t]) (fun x2 σ3 => ?_) (fun k1 hk1 => ?_)
  · refine kw_putI C fi_Md_67 rfl ht d_Md_ofColour_38 (fun σ4 => ?_)
    refine kw_aload_n C d_Md_ofColour_41 rfl ?_
    refine kw_getI C fi_Md_67 (Or.inl rfl) ht d_Md_ofColour_42 ?_
    refine kw_j (α := Int32) (pcj := 62) (Lj := fun x6 => [none, none, none]) (stj := fun x6 => [.int x6]) (fun x6 σ7 => ?_) (fun k5 hk5 => ?_)
    · exact kw_iret C Ce rfl (by simp) (fun _ _ => rfl) (Nat.le_of_ble_eq_true rfl) (Nat.le_of_ble_eq_true rfl) rfl d_Md_ofColour_62
    · refine kw_if_le (tgt := 52) C d_Md_ofColour_45 (by decide) ?_ ?_
      · refine kw_aload_n C d_Md_ofColour_52 rfl ?_
        refine kw_getR C fi_Md_18 rfl rfl ht d_Md_ofColour_53 (fun o8 ho8 => ?_)
        refine kw_iconst (v := 3) C d_Md_ofColour_56 (by decide) ?_
        refine kw_iload_n C d_Md_ofColour_57 rfl ?_
        refine kw_imul C d_Md_ofColour_58 ?_
        refine kw_iload_n C d_Md_ofColour_59 rfl ?_
        refine kw_iadd C d_Md_ofColour_60 ?_
        refine kw_leti (fun x9 => ?_)
        refine kw_iald C (Or.inl ⟨ho8.1, ho8.2.1⟩) d_Md_ofColour_61 ?_
        exact kw_wk (hk5 (gB σ4 o8 x9.toNatClampNeg) σ4) ⟨Or.inl rfl, Or.inl rfl, Or.inl rfl, trivial⟩
      · refine kw_iconst (v := 0) C d_Md_ofColour_48 (by decide) ?_
        refine kw_goto (tgt := 62) C d_Md_ofColour_49 (by decide) ?_
        exact kw_wk (hk5 0 σ4) ⟨Or.inl rfl, Or.inl rfl, Or.inl rfl, trivial⟩
  · refine kw_if_ne (tgt := 12) C d_Md_ofColour_5 (by decide) ?_ ?_
    · refine kw_iload_n C d_Md_ofColour_12 rfl ?_
      refine kw_j (α := Unit) (pcj := 33) (Lj := fun x11 => [some (.ref t), some (.int a0), some (.int a1)]) (stj := fun x11 => [.ref t]) (fun x11 σ12 => ?_) (fun k10 hk10 => ?_)
      · refine kw_iconst (v := 2) C d_Md_ofColour_33 (by decide) ?_
        refine kw_goto (tgt := 38) C d_Md_ofColour_34 (by decide) ?_
        exact kw_wk (hk1 2 σ12) ⟨Or.inr rfl, Or.inr rfl, Or.inr rfl, trivial⟩
      · refine kw_if_lt (tgt := 33) C d_Md_ofColour_13 (by decide) ?_ ?_
        · exact kw_wk (hk10 () σ) ⟨Or.inr rfl, Or.inr rfl, Or.inr rfl, trivial⟩
        · refine kw_iload_n C d_Md_ofColour_16 rfl ?_
          refine kw_aload_n C d_Md_ofColour_17 rfl ?_
          refine kw_getI C fi_Md_372 (Or.inl rfl) ht d_Md_ofColour_18 ?_
          refine kw_icmp_ge (tgt := 33) C d_Md_ofColour_21 (by decide) ?_ ?_
          · exact kw_wk (hk10 () σ) ⟨Or.inr rfl, Or.inr rfl, Or.inr rfl, trivial⟩
          · refine kw_iload_n C d_Md_ofColour_24 rfl ?_
            refine kw_if_lt (tgt := 33) C d_Md_ofColour_25 (by decide) ?_ ?_
            · exact kw_wk (hk10 () σ) ⟨Or.inr rfl, Or.inr rfl, Or.inr rfl, trivial⟩
            · refine kw_iload_n C d_Md_ofColour_28 rfl ?_
              refine kw_iconst (v := 2) C d_Md_ofColour_29 (by decide) ?_
              refine kw_icmp_le (tgt := 37) C d_Md_ofColour_30 (by decide) ?_ ?_
              · refine kw_iconst (v := 0) C d_Md_ofColour_37 (by decide) ?_
                exact kw_wk (hk1 0 σ) ⟨Or.inr rfl, Or.inr rfl, Or.inr rfl, trivial⟩
              · exact kw_wk (hk10 () σ) ⟨Or.inr rfl, Or.inr rfl, Or.inr rfl, trivial⟩
    · refine kw_iconst (v := 1) C d_Md_ofColour_8 (by decide) ?_
      refine kw_goto (tgt := 38) C d_Md_ofColour_9 (by decide) ?_
      exact kw_wk (hk1 1 σ) ⟨Or.inr rfl, Or.inr rfl, Or.inr rfl, trivial⟩
/-! Md_isSample -/
def rm_Md_isSample : Room := { frames := 0, cells := 0, slots := 0, locals := 0 }
def F_Md_isSample (n : Nat) (t : Nat) (a0 : Int32) (σ : Mm) : Option (Int32 × Mm) :=
kf_j (α := Int32) (fun x2 σ3 =>
kf_z x2 (some (x2, σ3))) fun k1 =>
kf_j (α := Unit) (fun x5 σ6 =>
k1 0 σ6) fun k4 =>
if a0 < 0 then (
k4 () σ) else (
if ((1 : Int32) <<< ((gS σ (64 * t + 9)) &&& 31)) ≤ a0 then (
k4 () σ) else (
k1 1 σ))
theorem d_Md_isSample_0 : decode prog_14_method_74_code 0 = .ok (.iload_n 1, 1) := by decide +kernel
theorem d_Md_isSample_1 : decode prog_14_method_74_code 1 = .ok (.ifCond .lt 17, 3) := by decide +kernel
theorem d_Md_isSample_4 : decode prog_14_method_74_code 4 = .ok (.iload_n 1, 1) := by decide +kernel
theorem d_Md_isSample_5 : decode prog_14_method_74_code 5 = .ok (.iconst 1, 1) := by decide +kernel
theorem d_Md_isSample_6 : decode prog_14_method_74_code 6 = .ok (.aload_n 0, 1) := by decide +kernel
theorem d_Md_isSample_7 : decode prog_14_method_74_code 7 = .ok (.getfield 366, 3) := by decide +kernel
theorem d_Md_isSample_10 : decode prog_14_method_74_code 10 = .ok (.ishl, 1) := by decide +kernel
theorem d_Md_isSample_11 : decode prog_14_method_74_code 11 = .ok (.if_icmp .ge 7, 3) := by decide +kernel
theorem d_Md_isSample_14 : decode prog_14_method_74_code 14 = .ok (.iconst 1, 1) := by decide +kernel
theorem d_Md_isSample_15 : decode prog_14_method_74_code 15 = .ok (.goto 4, 3) := by decide +kernel
theorem d_Md_isSample_18 : decode prog_14_method_74_code 18 = .ok (.iconst 0, 1) := by decide +kernel
theorem d_Md_isSample_19 : decode prog_14_method_74_code 19 = .ok (.ireturn, 1) := by decide +kernel
set_option maxRecDepth 100000 in
set_option maxHeartbeats 4000000 in
theorem c_Md_isSample {l0 : Launch} (hl : l0.stackTraces = false) (n : Nat) (ids : List Nat) {t : Nat} (ht : mm_ok ids t 1 12) (a0 : Int32) (σ : Mm) : kw_C l0 y_Md_isSample (Cond.code y_Md_isSample prog_14_method_74_code 2 (some .boolean) :: kw_Ts) rm_Md_isSample kw_oi ids [] [.ref t, .int a0] σ (F_Md_isSample n t a0 σ) := by
  refine kw_start (L0 := [some (.ref t), some (.int a0)]) hl (by decide +kernel) (Nat.le_of_ble_eq_true rfl) rfl (fun Γ ad C Ce => ?_)
  unfold F_Md_isSample
  refine kw_iload_n C d_Md_isSample_0 rfl ?_
  refine kw_j (α := Int32) (pcj := 19) (Lj := fun x2 => [none, none]) (stj := fun x2 => [.int x2]) (fun x2 σ3 => ?_) (fun k1 hk1 => ?_)
  · exact kw_zret C Ce rfl (by simp) (fun _ _ => rfl) (Nat.le_of_ble_eq_true rfl) (Nat.le_of_ble_eq_true rfl) rfl d_Md_isSample_19
  · refine kw_j (α := Unit) (pcj := 18) (Lj := fun x5 => [none, none]) (stj := fun x5 => []) (fun x5 σ6 => ?_) (fun k4 hk4 => ?_)
    · refine kw_iconst (v := 0) C d_Md_isSample_18 (by decide) ?_
      exact kw_wk (hk1 0 σ6) ⟨Or.inl rfl, Or.inl rfl, trivial⟩
    · refine kw_if_lt (tgt := 18) C d_Md_isSample_1 (by decide) ?_ ?_
      · exact kw_wk (hk4 () σ) ⟨Or.inl rfl, Or.inl rfl, trivial⟩
      · refine kw_iload_n C d_Md_isSample_4 rfl ?_
        refine kw_iconst (v := 1) C d_Md_isSample_5 (by decide) ?_
        refine kw_aload_n C d_Md_isSample_6 rfl ?_
        refine kw_getI C fi_Md_366 (Or.inl rfl) ht d_Md_isSample_7 ?_
        refine kw_ishl C d_Md_isSample_10 ?_
        refine kw_icmp_ge (tgt := 18) C d_Md_isSample_11 (by decide) ?_ ?_
        · exact kw_wk (hk4 () σ) ⟨Or.inl rfl, Or.inl rfl, trivial⟩
        · refine kw_iconst (v := 1) C d_Md_isSample_14 (by decide) ?_
          refine kw_goto (tgt := 19) C d_Md_isSample_15 (by decide) ?_
          exact kw_wk (hk1 1 σ) ⟨Or.inl rfl, Or.inl rfl, trivial⟩
/-! Md_thin -/
def rm_Md_thin : Room := { frames := 1, cells := 0, slots := 0, locals := 21 }
def F_Md_thin (n : Nat) (t : Nat) (a0 : Int32) (a1 : Int32) (a2 : Int32) (σ : Mm) : Option (Int32 × Mm) :=
kf_j (α := Int32) (fun x2 σ3 =>
kf_j (α := Int32) (fun x5 σ6 =>
kf_let (pS σ6 (64 * t + 0) x5) fun σ7 =>
if (gS σ7 (64 * t + 0)) ≤ 0 then (
if (gS σ7 (64 * t + 8)) = 3 then (
Option.bind (gR σ7 (64 * t + 14)) fun o18 =>
kf_in (gS σ7 (64 * t + 15)) (mm_kd o18).2.2 <| kf_let (pB σ7 o18 (gS σ7 (64 * t + 15)).toNatClampNeg a0) fun σ19 =>
kf_let (pS σ19 (64 * t + 15) ((gS σ19 (64 * t + 15)) + 1)) fun σ20 =>
some (gS σ20 (64 * t + 15), σ20)) else (
Option.bind (gR σ7 (64 * t + 14)) fun o8 =>
kf_in 0 (mm_kd o8).2.2 <| kf_let (pB σ7 o8 (0 : Int32).toNatClampNeg a0) fun σ9 =>
Option.bind (gR σ9 (64 * t + 14)) fun o10 =>
kf_in 1 (mm_kd o10).2.2 <| kf_let (pB σ9 o10 (1 : Int32).toNatClampNeg a1) fun σ11 =>
Option.bind (gR σ11 (64 * t + 14)) fun o12 =>
kf_in 2 (mm_kd o12).2.2 <| kf_let (pB σ11 o12 (2 : Int32).toNatClampNeg a2) fun σ13 =>
kf_j (α := Int32) (fun x15 σ16 =>
kf_let (pS σ16 (64 * t + 15) x15) fun σ17 =>
some (gS σ17 (64 * t + 15), σ17)) fun k14 =>
if (gS σ13 (64 * t + 8)) = 0 then (
k14 1 σ13) else (
k14 3 σ13))) else (
some (0, σ7))) fun k4 =>
if (gS σ3 (64 * t + 5)) = 0 then (
k4 1 σ3) else (
if x2 = 0 then (
k4 2 σ3) else (
kf_j (α := Unit) (fun x22 σ23 =>
k4 0 σ23) fun k21 =>
if (gS σ3 (64 * t + 8)) = 3 then (
if (gS σ3 (64 * t + 15)) = (gS σ3 (64 * t + 13)) then (
k4 3 σ3) else (
k21 () σ3)) else (
k21 () σ3)))) fun k1 =>
if (gS σ (64 * t + 8)) = 0 then (
kf_c2 (F_Md_isSample n t a0 σ) fun x36 σ37 =>
kf_j (α := Unit) (fun x39 σ40 =>
k1 0 σ40) fun k38 =>
if x36 = 0 then (
k38 () σ37) else (
if a0 = a1 then (
if a1 = a2 then (
k1 1 σ37) else (
k38 () σ37)) else (
k38 () σ37))) else (
if (gS σ (64 * t + 8)) = 2 then (
kf_c2 (F_Md_isSample n t a0 σ) fun x27 σ28 =>
kf_j (α := Unit) (fun x30 σ31 =>
k1 0 σ31) fun k29 =>
if x27 = 0 then (
k29 () σ28) else (
kf_c2 (F_Md_isSample n t a1 σ28) fun x32 σ33 =>
if x32 = 0 then (
k29 () σ33) else (
kf_c2 (F_Md_isSample n t a2 σ33) fun x34 σ35 =>
if x34 = 0 then (
k29 () σ35) else (
k1 1 σ35)))) else (
kf_j (α := Unit) (fun x25 σ26 =>
k1 0 σ26) fun k24 =>
if (gS σ (64 * t + 8)) = 3 then (
if a0 < 0 then (
k24 () σ) else (
if 256 ≤ a0 then (
k24 () σ) else (
k1 1 σ))) else (
k24 () σ)))
theorem d_Md_thin_0 : decode prog_14_method_75_code 0 = .ok (.aload_n 0, 1) := by decide +kernel
theorem d_Md_thin_1 : decode prog_14_method_75_code 1 = .ok (.getfield 363, 3) := by decide +kernel
theorem d_Md_thin_4 : decode prog_14_method_75_code 4 = .ok (.ifCond .ne 29, 3) := by decide +kernel
theorem d_Md_thin_7 : decode prog_14_method_75_code 7 = .ok (.aload_n 0, 1) := by decide +kernel
theorem d_Md_thin_8 : decode prog_14_method_75_code 8 = .ok (.iload_n 1, 1) := by decide +kernel
theorem d_Md_thin_9 : decode prog_14_method_75_code 9 = .ok (.invokevirtual 384, 3) := by decide +kernel
theorem d_Md_thin_12 : decode prog_14_method_75_code 12 = .ok (.ifCond .eq 17, 3) := by decide +kernel
theorem d_Md_thin_15 : decode prog_14_method_75_code 15 = .ok (.iload_n 1, 1) := by decide +kernel
theorem d_Md_thin_16 : decode prog_14_method_75_code 16 = .ok (.iload_n 2, 1) := by decide +kernel
theorem d_Md_thin_17 : decode prog_14_method_75_code 17 = .ok (.if_icmp .ne 12, 3) := by decide +kernel
theorem d_Md_thin_20 : decode prog_14_method_75_code 20 = .ok (.iload_n 2, 1) := by decide +kernel
theorem d_Md_thin_21 : decode prog_14_method_75_code 21 = .ok (.iload_n 3, 1) := by decide +kernel
theorem d_Md_thin_22 : decode prog_14_method_75_code 22 = .ok (.if_icmp .ne 7, 3) := by decide +kernel
theorem d_Md_thin_25 : decode prog_14_method_75_code 25 = .ok (.iconst 1, 1) := by decide +kernel
theorem d_Md_thin_26 : decode prog_14_method_75_code 26 = .ok (.goto 71, 3) := by decide +kernel
theorem d_Md_thin_29 : decode prog_14_method_75_code 29 = .ok (.iconst 0, 1) := by decide +kernel
theorem d_Md_thin_30 : decode prog_14_method_75_code 30 = .ok (.goto 67, 3) := by decide +kernel
theorem d_Md_thin_33 : decode prog_14_method_75_code 33 = .ok (.aload_n 0, 1) := by decide +kernel
theorem d_Md_thin_34 : decode prog_14_method_75_code 34 = .ok (.getfield 363, 3) := by decide +kernel
theorem d_Md_thin_37 : decode prog_14_method_75_code 37 = .ok (.iconst 2, 1) := by decide +kernel
theorem d_Md_thin_38 : decode prog_14_method_75_code 38 = .ok (.if_icmp .ne 35, 3) := by decide +kernel
theorem d_Md_thin_41 : decode prog_14_method_75_code 41 = .ok (.aload_n 0, 1) := by decide +kernel
theorem d_Md_thin_42 : decode prog_14_method_75_code 42 = .ok (.iload_n 1, 1) := by decide +kernel
theorem d_Md_thin_43 : decode prog_14_method_75_code 43 = .ok (.invokevirtual 384, 3) := by decide +kernel
theorem d_Md_thin_46 : decode prog_14_method_75_code 46 = .ok (.ifCond .eq 23, 3) := by decide +kernel
theorem d_Md_thin_49 : decode prog_14_method_75_code 49 = .ok (.aload_n 0, 1) := by decide +kernel
theorem d_Md_thin_50 : decode prog_14_method_75_code 50 = .ok (.iload_n 2, 1) := by decide +kernel
theorem d_Md_thin_51 : decode prog_14_method_75_code 51 = .ok (.invokevirtual 384, 3) := by decide +kernel
theorem d_Md_thin_54 : decode prog_14_method_75_code 54 = .ok (.ifCond .eq 15, 3) := by decide +kernel
theorem d_Md_thin_57 : decode prog_14_method_75_code 57 = .ok (.aload_n 0, 1) := by decide +kernel
theorem d_Md_thin_58 : decode prog_14_method_75_code 58 = .ok (.iload_n 3, 1) := by decide +kernel
theorem d_Md_thin_59 : decode prog_14_method_75_code 59 = .ok (.invokevirtual 384, 3) := by decide +kernel
theorem d_Md_thin_62 : decode prog_14_method_75_code 62 = .ok (.ifCond .eq 7, 3) := by decide +kernel
theorem d_Md_thin_65 : decode prog_14_method_75_code 65 = .ok (.iconst 1, 1) := by decide +kernel
theorem d_Md_thin_66 : decode prog_14_method_75_code 66 = .ok (.goto 31, 3) := by decide +kernel
theorem d_Md_thin_69 : decode prog_14_method_75_code 69 = .ok (.iconst 0, 1) := by decide +kernel
theorem d_Md_thin_70 : decode prog_14_method_75_code 70 = .ok (.goto 27, 3) := by decide +kernel
theorem d_Md_thin_73 : decode prog_14_method_75_code 73 = .ok (.aload_n 0, 1) := by decide +kernel
theorem d_Md_thin_74 : decode prog_14_method_75_code 74 = .ok (.getfield 363, 3) := by decide +kernel
theorem d_Md_thin_77 : decode prog_14_method_75_code 77 = .ok (.iconst 3, 1) := by decide +kernel
theorem d_Md_thin_78 : decode prog_14_method_75_code 78 = .ok (.if_icmp .ne 18, 3) := by decide +kernel
theorem d_Md_thin_81 : decode prog_14_method_75_code 81 = .ok (.iload_n 1, 1) := by decide +kernel
theorem d_Md_thin_82 : decode prog_14_method_75_code 82 = .ok (.ifCond .lt 14, 3) := by decide +kernel
theorem d_Md_thin_85 : decode prog_14_method_75_code 85 = .ok (.iload_n 1, 1) := by decide +kernel
theorem d_Md_thin_86 : decode prog_14_method_75_code 86 = .ok (.sipush 256, 3) := by decide +kernel
theorem d_Md_thin_89 : decode prog_14_method_75_code 89 = .ok (.if_icmp .ge 7, 3) := by decide +kernel
theorem d_Md_thin_92 : decode prog_14_method_75_code 92 = .ok (.iconst 1, 1) := by decide +kernel
theorem d_Md_thin_93 : decode prog_14_method_75_code 93 = .ok (.goto 4, 3) := by decide +kernel
theorem d_Md_thin_96 : decode prog_14_method_75_code 96 = .ok (.iconst 0, 1) := by decide +kernel
theorem d_Md_thin_97 : decode prog_14_method_75_code 97 = .ok (.istore 4, 2) := by decide +kernel
theorem d_Md_thin_99 : decode prog_14_method_75_code 99 = .ok (.aload_n 0, 1) := by decide +kernel
theorem d_Md_thin_100 : decode prog_14_method_75_code 100 = .ok (.aload_n 0, 1) := by decide +kernel
theorem d_Md_thin_101 : decode prog_14_method_75_code 101 = .ok (.getfield 354, 3) := by decide +kernel
theorem d_Md_thin_104 : decode prog_14_method_75_code 104 = .ok (.ifCond .ne 7, 3) := by decide +kernel
theorem d_Md_thin_107 : decode prog_14_method_75_code 107 = .ok (.iconst 1, 1) := by decide +kernel
theorem d_Md_thin_108 : decode prog_14_method_75_code 108 = .ok (.goto 36, 3) := by decide +kernel
theorem d_Md_thin_111 : decode prog_14_method_75_code 111 = .ok (.iload 4, 2) := by decide +kernel
theorem d_Md_thin_113 : decode prog_14_method_75_code 113 = .ok (.ifCond .ne 7, 3) := by decide +kernel
theorem d_Md_thin_116 : decode prog_14_method_75_code 116 = .ok (.iconst 2, 1) := by decide +kernel
theorem d_Md_thin_117 : decode prog_14_method_75_code 117 = .ok (.goto 27, 3) := by decide +kernel
theorem d_Md_thin_120 : decode prog_14_method_75_code 120 = .ok (.aload_n 0, 1) := by decide +kernel
theorem d_Md_thin_121 : decode prog_14_method_75_code 121 = .ok (.getfield 363, 3) := by decide +kernel
theorem d_Md_thin_124 : decode prog_14_method_75_code 124 = .ok (.iconst 3, 1) := by decide +kernel
theorem d_Md_thin_125 : decode prog_14_method_75_code 125 = .ok (.if_icmp .ne 18, 3) := by decide +kernel
theorem d_Md_thin_128 : decode prog_14_method_75_code 128 = .ok (.aload_n 0, 1) := by decide +kernel
theorem d_Md_thin_129 : decode prog_14_method_75_code 129 = .ok (.getfield 375, 3) := by decide +kernel
theorem d_Md_thin_132 : decode prog_14_method_75_code 132 = .ok (.aload_n 0, 1) := by decide +kernel
theorem d_Md_thin_133 : decode prog_14_method_75_code 133 = .ok (.getfield 372, 3) := by decide +kernel
theorem d_Md_thin_136 : decode prog_14_method_75_code 136 = .ok (.if_icmp .ne 7, 3) := by decide +kernel
theorem d_Md_thin_139 : decode prog_14_method_75_code 139 = .ok (.iconst 3, 1) := by decide +kernel
theorem d_Md_thin_140 : decode prog_14_method_75_code 140 = .ok (.goto 4, 3) := by decide +kernel
theorem d_Md_thin_143 : decode prog_14_method_75_code 143 = .ok (.iconst 0, 1) := by decide +kernel
theorem d_Md_thin_144 : decode prog_14_method_75_code 144 = .ok (.putfield 67, 3) := by decide +kernel
theorem d_Md_thin_147 : decode prog_14_method_75_code 147 = .ok (.aload_n 0, 1) := by decide +kernel
theorem d_Md_thin_148 : decode prog_14_method_75_code 148 = .ok (.getfield 67, 3) := by decide +kernel
theorem d_Md_thin_151 : decode prog_14_method_75_code 151 = .ok (.ifCond .le 5, 3) := by decide +kernel
theorem d_Md_thin_154 : decode prog_14_method_75_code 154 = .ok (.iconst 0, 1) := by decide +kernel
theorem d_Md_thin_155 : decode prog_14_method_75_code 155 = .ok (.ireturn, 1) := by decide +kernel
theorem d_Md_thin_156 : decode prog_14_method_75_code 156 = .ok (.aload_n 0, 1) := by decide +kernel
theorem d_Md_thin_157 : decode prog_14_method_75_code 157 = .ok (.getfield 363, 3) := by decide +kernel
theorem d_Md_thin_160 : decode prog_14_method_75_code 160 = .ok (.iconst 3, 1) := by decide +kernel
theorem d_Md_thin_161 : decode prog_14_method_75_code 161 = .ok (.if_icmp .ne 28, 3) := by decide +kernel
theorem d_Md_thin_164 : decode prog_14_method_75_code 164 = .ok (.aload_n 0, 1) := by decide +kernel
theorem d_Md_thin_165 : decode prog_14_method_75_code 165 = .ok (.getfield 21, 3) := by decide +kernel
theorem d_Md_thin_168 : decode prog_14_method_75_code 168 = .ok (.aload_n 0, 1) := by decide +kernel
theorem d_Md_thin_169 : decode prog_14_method_75_code 169 = .ok (.getfield 375, 3) := by decide +kernel
theorem d_Md_thin_172 : decode prog_14_method_75_code 172 = .ok (.iload_n 1, 1) := by decide +kernel
theorem d_Md_thin_173 : decode prog_14_method_75_code 173 = .ok (.iastore, 1) := by decide +kernel
theorem d_Md_thin_174 : decode prog_14_method_75_code 174 = .ok (.aload_n 0, 1) := by decide +kernel
theorem d_Md_thin_175 : decode prog_14_method_75_code 175 = .ok (.dup, 1) := by decide +kernel
theorem d_Md_thin_176 : decode prog_14_method_75_code 176 = .ok (.getfield 375, 3) := by decide +kernel
theorem d_Md_thin_179 : decode prog_14_method_75_code 179 = .ok (.iconst 1, 1) := by decide +kernel
theorem d_Md_thin_180 : decode prog_14_method_75_code 180 = .ok (.iadd, 1) := by decide +kernel
theorem d_Md_thin_181 : decode prog_14_method_75_code 181 = .ok (.putfield 375, 3) := by decide +kernel
theorem d_Md_thin_184 : decode prog_14_method_75_code 184 = .ok (.aload_n 0, 1) := by decide +kernel
theorem d_Md_thin_185 : decode prog_14_method_75_code 185 = .ok (.getfield 375, 3) := by decide +kernel
theorem d_Md_thin_188 : decode prog_14_method_75_code 188 = .ok (.ireturn, 1) := by decide +kernel
theorem d_Md_thin_189 : decode prog_14_method_75_code 189 = .ok (.aload_n 0, 1) := by decide +kernel
theorem d_Md_thin_190 : decode prog_14_method_75_code 190 = .ok (.getfield 21, 3) := by decide +kernel
theorem d_Md_thin_193 : decode prog_14_method_75_code 193 = .ok (.iconst 0, 1) := by decide +kernel
theorem d_Md_thin_194 : decode prog_14_method_75_code 194 = .ok (.iload_n 1, 1) := by decide +kernel
theorem d_Md_thin_195 : decode prog_14_method_75_code 195 = .ok (.iastore, 1) := by decide +kernel
theorem d_Md_thin_196 : decode prog_14_method_75_code 196 = .ok (.aload_n 0, 1) := by decide +kernel
theorem d_Md_thin_197 : decode prog_14_method_75_code 197 = .ok (.getfield 21, 3) := by decide +kernel
theorem d_Md_thin_200 : decode prog_14_method_75_code 200 = .ok (.iconst 1, 1) := by decide +kernel
theorem d_Md_thin_201 : decode prog_14_method_75_code 201 = .ok (.iload_n 2, 1) := by decide +kernel
theorem d_Md_thin_202 : decode prog_14_method_75_code 202 = .ok (.iastore, 1) := by decide +kernel
theorem d_Md_thin_203 : decode prog_14_method_75_code 203 = .ok (.aload_n 0, 1) := by decide +kernel
theorem d_Md_thin_204 : decode prog_14_method_75_code 204 = .ok (.getfield 21, 3) := by decide +kernel
theorem d_Md_thin_207 : decode prog_14_method_75_code 207 = .ok (.iconst 2, 1) := by decide +kernel
theorem d_Md_thin_208 : decode prog_14_method_75_code 208 = .ok (.iload_n 3, 1) := by decide +kernel
theorem d_Md_thin_209 : decode prog_14_method_75_code 209 = .ok (.iastore, 1) := by decide +kernel
theorem d_Md_thin_210 : decode prog_14_method_75_code 210 = .ok (.aload_n 0, 1) := by decide +kernel
theorem d_Md_thin_211 : decode prog_14_method_75_code 211 = .ok (.aload_n 0, 1) := by decide +kernel
theorem d_Md_thin_212 : decode prog_14_method_75_code 212 = .ok (.getfield 363, 3) := by decide +kernel
theorem d_Md_thin_215 : decode prog_14_method_75_code 215 = .ok (.ifCond .ne 7, 3) := by decide +kernel
theorem d_Md_thin_218 : decode prog_14_method_75_code 218 = .ok (.iconst 1, 1) := by decide +kernel
theorem d_Md_thin_219 : decode prog_14_method_75_code 219 = .ok (.goto 4, 3) := by decide +kernel
theorem d_Md_thin_222 : decode prog_14_method_75_code 222 = .ok (.iconst 3, 1) := by decide +kernel
theorem d_Md_thin_223 : decode prog_14_method_75_code 223 = .ok (.putfield 375, 3) := by decide +kernel
theorem d_Md_thin_226 : decode prog_14_method_75_code 226 = .ok (.aload_n 0, 1) := by decide +kernel
theorem d_Md_thin_227 : decode prog_14_method_75_code 227 = .ok (.getfield 375, 3) := by decide +kernel
theorem d_Md_thin_230 : decode prog_14_method_75_code 230 = .ok (.ireturn, 1) := by decide +kernel
set_option maxRecDepth 100000 in
set_option maxHeartbeats 4000000 in
theorem c_Md_thin {l0 : Launch} (hl : l0.stackTraces = false) (n : Nat) (ids : List Nat) {t : Nat} (ht : mm_ok ids t 1 12) (a0 : Int32) (a1 : Int32) (a2 : Int32) (σ : Mm) : kw_C l0 y_Md_thin (Cond.code y_Md_thin prog_14_method_75_code 5 (some .int) :: kw_Ts) rm_Md_thin kw_oi ids [] [.ref t, .int a0, .int a1, .int a2] σ (F_Md_thin n t a0 a1 a2 σ) := by
  refine kw_start (L0 := [some (.ref t), some (.int a0), some (.int a1), some (.int a2), none]) hl (by decide +kernel) (Nat.le_of_ble_eq_true rfl) rfl (fun Γ ad C Ce => ?_)
  unfold F_Md_thin
  refine kw_aload_n C d_Md_thin_0 rfl ?_
  refine kw_getI C fi_Md_363 (Or.inl rfl) ht d_Md_thin_1 ?_
  refine kw_j (α := Int32) (pcj := 97) (Lj := fun x2 => [some (.ref t), some (.int a0), some (.int a1), some (.int a2), none]) (stj := fun x2 => [.int x2]) (fun x2 σ3 => ?_) (fun k1 hk1 => ?_)
  · refine kw_istore (L' := [some (.ref t), some (.int a0), some (.int a1), some (.int a2), some (.int x2)]) C d_Md_thin_97 (by decide) rfl ?_
    refine kw_aload_n C d_Md_thin_99 rfl ?_
    refine kw_aload_n C d_Md_thin_100 rfl ?_
    refine kw_getI C fi_Md_354 (Or.inr rfl) ht d_Md_thin_101 ?_
    refine kw_j (α := Int32) (pcj := 144) (Lj := fun x5 => [some (.ref t), some (.int a0), some (.int a1), some (.int a2), none]) (stj := fun x5 => [.int x5, .ref t]) (fun x5 σ6 => ?_) (fun k4 hk4 => ?_)
    · refine kw_putI C fi_Md_67 rfl ht d_Md_thin_144 (fun σ7 => ?_)
      refine kw_aload_n C d_Md_thin_147 rfl ?_
      refine kw_getI C fi_Md_67 (Or.inl rfl) ht d_Md_thin_148 ?_
      refine kw_if_le (tgt := 156) C d_Md_thin_151 (by decide) ?_ ?_
      · refine kw_aload_n C d_Md_thin_156 rfl ?_
        refine kw_getI C fi_Md_363 (Or.inl rfl) ht d_Md_thin_157 ?_
        refine kw_iconst (v := 3) C d_Md_thin_160 (by decide) ?_
        refine kw_icmp_ne (tgt := 189) C d_Md_thin_161 (by decide) ?_ ?_
        · refine kw_aload_n C d_Md_thin_189 rfl ?_
          refine kw_getR C fi_Md_21 rfl rfl ht d_Md_thin_190 (fun o8 ho8 => ?_)
          refine kw_iconst (v := 0) C d_Md_thin_193 (by decide) ?_
          refine kw_iload_n C d_Md_thin_194 rfl ?_
          refine kw_iast C ho8 d_Md_thin_195 (fun σ9 => ?_)
          refine kw_aload_n C d_Md_thin_196 rfl ?_
          refine kw_getR C fi_Md_21 rfl rfl ht d_Md_thin_197 (fun o10 ho10 => ?_)
          refine kw_iconst (v := 1) C d_Md_thin_200 (by decide) ?_
          refine kw_iload_n C d_Md_thin_201 rfl ?_
          refine kw_iast C ho10 d_Md_thin_202 (fun σ11 => ?_)
          refine kw_aload_n C d_Md_thin_203 rfl ?_
          refine kw_getR C fi_Md_21 rfl rfl ht d_Md_thin_204 (fun o12 ho12 => ?_)
          refine kw_iconst (v := 2) C d_Md_thin_207 (by decide) ?_
          refine kw_iload_n C d_Md_thin_208 rfl ?_
          refine kw_iast C ho12 d_Md_thin_209 (fun σ13 => ?_)
          refine kw_aload_n C d_Md_thin_210 rfl ?_
          refine kw_aload_n C d_Md_thin_211 rfl ?_
          refine kw_getI C fi_Md_363 (Or.inl rfl) ht d_Md_thin_212 ?_
          refine kw_j (α := Int32) (pcj := 223) (Lj := fun x15 => [some (.ref t), none, none, none, none]) (stj := fun x15 => [.int x15, .ref t]) (fun x15 σ16 => ?_) (fun k14 hk14 => ?_)
          · refine kw_putI C fi_Md_375 rfl ht d_Md_thin_223 (fun σ17 => ?_)
            refine kw_aload_n C d_Md_thin_226 rfl ?_
            refine kw_getI C fi_Md_375 (Or.inl rfl) ht d_Md_thin_227 ?_
            exact kw_iret C Ce rfl (by simp) (fun _ _ => rfl) (Nat.le_of_ble_eq_true rfl) (Nat.le_of_ble_eq_true rfl) rfl d_Md_thin_230
          · refine kw_if_ne (tgt := 222) C d_Md_thin_215 (by decide) ?_ ?_
            · refine kw_iconst (v := 3) C d_Md_thin_222 (by decide) ?_
              exact kw_wk (hk14 3 σ13) ⟨Or.inr rfl, Or.inl rfl, Or.inl rfl, Or.inl rfl, Or.inl rfl, trivial⟩
            · refine kw_iconst (v := 1) C d_Md_thin_218 (by decide) ?_
              refine kw_goto (tgt := 223) C d_Md_thin_219 (by decide) ?_
              exact kw_wk (hk14 1 σ13) ⟨Or.inr rfl, Or.inl rfl, Or.inl rfl, Or.inl rfl, Or.inl rfl, trivial⟩
        · refine kw_aload_n C d_Md_thin_164 rfl ?_
          refine kw_getR C fi_Md_21 rfl rfl ht d_Md_thin_165 (fun o18 ho18 => ?_)
          refine kw_aload_n C d_Md_thin_168 rfl ?_
          refine kw_getI C fi_Md_375 (Or.inl rfl) ht d_Md_thin_169 ?_
          refine kw_iload_n C d_Md_thin_172 rfl ?_
          refine kw_iast C ho18 d_Md_thin_173 (fun σ19 => ?_)
          refine kw_aload_n C d_Md_thin_174 rfl ?_
          refine kw_dup C d_Md_thin_175 rfl ?_
          refine kw_getI C fi_Md_375 (Or.inl rfl) ht d_Md_thin_176 ?_
          refine kw_iconst (v := 1) C d_Md_thin_179 (by decide) ?_
          refine kw_iadd C d_Md_thin_180 ?_
          refine kw_putI C fi_Md_375 rfl ht d_Md_thin_181 (fun σ20 => ?_)
          refine kw_aload_n C d_Md_thin_184 rfl ?_
          refine kw_getI C fi_Md_375 (Or.inl rfl) ht d_Md_thin_185 ?_
          exact kw_iret C Ce rfl (by simp) (fun _ _ => rfl) (Nat.le_of_ble_eq_true rfl) (Nat.le_of_ble_eq_true rfl) rfl d_Md_thin_188
      · refine kw_iconst (v := 0) C d_Md_thin_154 (by decide) ?_
        exact kw_iret C Ce rfl (by simp) (fun _ _ => rfl) (Nat.le_of_ble_eq_true rfl) (Nat.le_of_ble_eq_true rfl) rfl d_Md_thin_155
    · refine kw_if_ne (tgt := 111) C d_Md_thin_104 (by decide) ?_ ?_
      · refine kw_iload C d_Md_thin_111 rfl ?_
        refine kw_if_ne (tgt := 120) C d_Md_thin_113 (by decide) ?_ ?_
        · refine kw_aload_n C d_Md_thin_120 rfl ?_
          refine kw_getI C fi_Md_363 (Or.inl rfl) ht d_Md_thin_121 ?_
          refine kw_iconst (v := 3) C d_Md_thin_124 (by decide) ?_
          refine kw_j (α := Unit) (pcj := 143) (Lj := fun x22 => [some (.ref t), some (.int a0), some (.int a1), some (.int a2), none]) (stj := fun x22 => [.ref t]) (fun x22 σ23 => ?_) (fun k21 hk21 => ?_)
          · refine kw_iconst (v := 0) C d_Md_thin_143 (by decide) ?_
            exact kw_wk (hk4 0 σ23) ⟨Or.inr rfl, Or.inr rfl, Or.inr rfl, Or.inr rfl, Or.inl rfl, trivial⟩
          · refine kw_icmp_ne (tgt := 143) C d_Md_thin_125 (by decide) ?_ ?_
            · exact kw_wk (hk21 () σ3) ⟨Or.inr rfl, Or.inr rfl, Or.inr rfl, Or.inr rfl, Or.inl rfl, trivial⟩
            · refine kw_aload_n C d_Md_thin_128 rfl ?_
              refine kw_getI C fi_Md_375 (Or.inl rfl) ht d_Md_thin_129 ?_
              refine kw_aload_n C d_Md_thin_132 rfl ?_
              refine kw_getI C fi_Md_372 (Or.inl rfl) ht d_Md_thin_133 ?_
              refine kw_icmp_ne (tgt := 143) C d_Md_thin_136 (by decide) ?_ ?_
              · exact kw_wk (hk21 () σ3) ⟨Or.inr rfl, Or.inr rfl, Or.inr rfl, Or.inr rfl, Or.inl rfl, trivial⟩
              · refine kw_iconst (v := 3) C d_Md_thin_139 (by decide) ?_
                refine kw_goto (tgt := 144) C d_Md_thin_140 (by decide) ?_
                exact kw_wk (hk4 3 σ3) ⟨Or.inr rfl, Or.inr rfl, Or.inr rfl, Or.inr rfl, Or.inl rfl, trivial⟩
        · refine kw_iconst (v := 2) C d_Md_thin_116 (by decide) ?_
          refine kw_goto (tgt := 144) C d_Md_thin_117 (by decide) ?_
          exact kw_wk (hk4 2 σ3) ⟨Or.inr rfl, Or.inr rfl, Or.inr rfl, Or.inr rfl, Or.inl rfl, trivial⟩
      · refine kw_iconst (v := 1) C d_Md_thin_107 (by decide) ?_
        refine kw_goto (tgt := 144) C d_Md_thin_108 (by decide) ?_
        exact kw_wk (hk4 1 σ3) ⟨Or.inr rfl, Or.inr rfl, Or.inr rfl, Or.inr rfl, Or.inl rfl, trivial⟩
  · refine kw_if_ne (tgt := 33) C d_Md_thin_4 (by decide) ?_ ?_
    · refine kw_aload_n C d_Md_thin_33 rfl ?_
      refine kw_getI C fi_Md_363 (Or.inl rfl) ht d_Md_thin_34 ?_
      refine kw_iconst (v := 2) C d_Md_thin_37 (by decide) ?_
      refine kw_icmp_ne (tgt := 73) C d_Md_thin_38 (by decide) ?_ ?_
      · refine kw_aload_n C d_Md_thin_73 rfl ?_
        refine kw_getI C fi_Md_363 (Or.inl rfl) ht d_Md_thin_74 ?_
        refine kw_iconst (v := 3) C d_Md_thin_77 (by decide) ?_
        refine kw_j (α := Unit) (pcj := 96) (Lj := fun x25 => [some (.ref t), some (.int a0), some (.int a1), some (.int a2), none]) (stj := fun x25 => []) (fun x25 σ26 => ?_) (fun k24 hk24 => ?_)
        · refine kw_iconst (v := 0) C d_Md_thin_96 (by decide) ?_
          exact kw_wk (hk1 0 σ26) ⟨Or.inr rfl, Or.inr rfl, Or.inr rfl, Or.inr rfl, Or.inl rfl, trivial⟩
        · refine kw_icmp_ne (tgt := 96) C d_Md_thin_78 (by decide) ?_ ?_
          · exact kw_wk (hk24 () σ) ⟨Or.inr rfl, Or.inr rfl, Or.inr rfl, Or.inr rfl, Or.inl rfl, trivial⟩
          · refine kw_iload_n C d_Md_thin_81 rfl ?_
            refine kw_if_lt (tgt := 96) C d_Md_thin_82 (by decide) ?_ ?_
            · exact kw_wk (hk24 () σ) ⟨Or.inr rfl, Or.inr rfl, Or.inr rfl, Or.inr rfl, Or.inl rfl, trivial⟩
            · refine kw_iload_n C d_Md_thin_85 rfl ?_
              refine kw_sipush (v := 256) C d_Md_thin_86 (by decide) ?_
              refine kw_icmp_ge (tgt := 96) C d_Md_thin_89 (by decide) ?_ ?_
              · exact kw_wk (hk24 () σ) ⟨Or.inr rfl, Or.inr rfl, Or.inr rfl, Or.inr rfl, Or.inl rfl, trivial⟩
              · refine kw_iconst (v := 1) C d_Md_thin_92 (by decide) ?_
                refine kw_goto (tgt := 97) C d_Md_thin_93 (by decide) ?_
                exact kw_wk (hk1 1 σ) ⟨Or.inr rfl, Or.inr rfl, Or.inr rfl, Or.inr rfl, Or.inl rfl, trivial⟩
      · refine kw_aload_n C d_Md_thin_41 rfl ?_
        refine kw_iload_n C d_Md_thin_42 rfl ?_
        refine kw_callVi (cl' := 0) (sl' := 0) (As := [.int a0]) C (c_Md_isSample hl n ids ht a0 σ) mi_Md_384 v_Md_isSample ⟨_, _, rfl⟩ ht ⟨Nat.le_of_ble_eq_true rfl, Nat.le_of_ble_eq_true rfl⟩ (Nat.le_of_ble_eq_true rfl) ⟨Nat.le_of_ble_eq_true rfl, Nat.le_of_ble_eq_true rfl⟩ ⟨rfl, rfl⟩ rfl d_Md_thin_43 (fun x27 σ28 => ?_)
        refine kw_j (α := Unit) (pcj := 69) (Lj := fun x30 => [some (.ref t), some (.int a0), some (.int a1), some (.int a2), none]) (stj := fun x30 => []) (fun x30 σ31 => ?_) (fun k29 hk29 => ?_)
        · refine kw_iconst (v := 0) C d_Md_thin_69 (by decide) ?_
          refine kw_goto (tgt := 97) C d_Md_thin_70 (by decide) ?_
          exact kw_wk (hk1 0 σ31) ⟨Or.inr rfl, Or.inr rfl, Or.inr rfl, Or.inr rfl, Or.inl rfl, trivial⟩
        · refine kw_if_eq (tgt := 69) C d_Md_thin_46 (by decide) ?_ ?_
          · exact kw_wk (hk29 () σ28) ⟨Or.inr rfl, Or.inr rfl, Or.inr rfl, Or.inr rfl, Or.inl rfl, trivial⟩
          · refine kw_aload_n C d_Md_thin_49 rfl ?_
            refine kw_iload_n C d_Md_thin_50 rfl ?_
            refine kw_callVi (cl' := 0) (sl' := 0) (As := [.int a1]) C (c_Md_isSample hl n ids ht a1 σ28) mi_Md_384 v_Md_isSample ⟨_, _, rfl⟩ ht ⟨Nat.le_of_ble_eq_true rfl, Nat.le_of_ble_eq_true rfl⟩ (Nat.le_of_ble_eq_true rfl) ⟨Nat.le_of_ble_eq_true rfl, Nat.le_of_ble_eq_true rfl⟩ ⟨rfl, rfl⟩ rfl d_Md_thin_51 (fun x32 σ33 => ?_)
            refine kw_if_eq (tgt := 69) C d_Md_thin_54 (by decide) ?_ ?_
            · exact kw_wk (hk29 () σ33) ⟨Or.inr rfl, Or.inr rfl, Or.inr rfl, Or.inr rfl, Or.inl rfl, trivial⟩
            · refine kw_aload_n C d_Md_thin_57 rfl ?_
              refine kw_iload_n C d_Md_thin_58 rfl ?_
              refine kw_callVi (cl' := 0) (sl' := 0) (As := [.int a2]) C (c_Md_isSample hl n ids ht a2 σ33) mi_Md_384 v_Md_isSample ⟨_, _, rfl⟩ ht ⟨Nat.le_of_ble_eq_true rfl, Nat.le_of_ble_eq_true rfl⟩ (Nat.le_of_ble_eq_true rfl) ⟨Nat.le_of_ble_eq_true rfl, Nat.le_of_ble_eq_true rfl⟩ ⟨rfl, rfl⟩ rfl d_Md_thin_59 (fun x34 σ35 => ?_)
              refine kw_if_eq (tgt := 69) C d_Md_thin_62 (by decide) ?_ ?_
              · exact kw_wk (hk29 () σ35) ⟨Or.inr rfl, Or.inr rfl, Or.inr rfl, Or.inr rfl, Or.inl rfl, trivial⟩
              · refine kw_iconst (v := 1) C d_Md_thin_65 (by decide) ?_
                refine kw_goto (tgt := 97) C d_Md_thin_66 (by decide) ?_
                exact kw_wk (hk1 1 σ35) ⟨Or.inr rfl, Or.inr rfl, Or.inr rfl, Or.inr rfl, Or.inl rfl, trivial⟩
    · refine kw_aload_n C d_Md_thin_7 rfl ?_
      refine kw_iload_n C d_Md_thin_8 rfl ?_
      refine kw_callVi (cl' := 0) (sl' := 0) (As := [.int a0]) C (c_Md_isSample hl n ids ht a0 σ) mi_Md_384 v_Md_isSample ⟨_, _, rfl⟩ ht ⟨Nat.le_of_ble_eq_true rfl, Nat.le_of_ble_eq_true rfl⟩ (Nat.le_of_ble_eq_true rfl) ⟨Nat.le_of_ble_eq_true rfl, Nat.le_of_ble_eq_true rfl⟩ ⟨rfl, rfl⟩ rfl d_Md_thin_9 (fun x36 σ37 => ?_)
      refine kw_j (α := Unit) (pcj := 29) (Lj := fun x39 => [some (.ref t), some (.int a0), some (.int a1), some (.int a2), none]) (stj := fun x39 => []) (fun x39 σ40 => ?_) (fun k38 hk38 => ?_)
      · refine kw_iconst (v := 0) C d_Md_thin_29 (by decide) ?_
        refine kw_goto (tgt := 97) C d_Md_thin_30 (by decide) ?_
        exact kw_wk (hk1 0 σ40) ⟨Or.inr rfl, Or.inr rfl, Or.inr rfl, Or.inr rfl, Or.inl rfl, trivial⟩
      · refine kw_if_eq (tgt := 29) C d_Md_thin_12 (by decide) ?_ ?_
        · exact kw_wk (hk38 () σ37) ⟨Or.inr rfl, Or.inr rfl, Or.inr rfl, Or.inr rfl, Or.inl rfl, trivial⟩
        · refine kw_iload_n C d_Md_thin_15 rfl ?_
          refine kw_iload_n C d_Md_thin_16 rfl ?_
          refine kw_icmp_ne (tgt := 29) C d_Md_thin_17 (by decide) ?_ ?_
          · exact kw_wk (hk38 () σ37) ⟨Or.inr rfl, Or.inr rfl, Or.inr rfl, Or.inr rfl, Or.inl rfl, trivial⟩
          · refine kw_iload_n C d_Md_thin_20 rfl ?_
            refine kw_iload_n C d_Md_thin_21 rfl ?_
            refine kw_icmp_ne (tgt := 29) C d_Md_thin_22 (by decide) ?_ ?_
            · exact kw_wk (hk38 () σ37) ⟨Or.inr rfl, Or.inr rfl, Or.inr rfl, Or.inr rfl, Or.inl rfl, trivial⟩
            · refine kw_iconst (v := 1) C d_Md_thin_25 (by decide) ?_
              refine kw_goto (tgt := 97) C d_Md_thin_26 (by decide) ?_
              exact kw_wk (hk1 1 σ37) ⟨Or.inr rfl, Or.inr rfl, Or.inr rfl, Or.inr rfl, Or.inl rfl, trivial⟩
/-! Md_ofThin -/
def rm_Md_ofThin : Room := { frames := 0, cells := 0, slots := 0, locals := 0 }
def F_Md_ofThin (n : Nat) (t : Nat) (a0 : Int32) (σ : Mm) : Option (Int32 × Mm) :=
kf_j (α := Int32) (fun x2 σ3 =>
kf_let (pS σ3 (64 * t + 0) x2) fun σ4 =>
kf_j (α := Int32) (fun x6 σ7 =>
some (x6, σ7)) fun k5 =>
if (gS σ4 (64 * t + 0)) ≤ 0 then (
Option.bind (gR σ4 (64 * t + 14)) fun o8 =>
kf_in a0 (mm_kd o8).2.2 <|
k5 (gB σ4 o8 a0.toNatClampNeg) σ4) else (
k5 0 σ4)) fun k1 =>
if (gS σ (64 * t + 5)) = 0 then (
k1 1 σ) else (
kf_j (α := Unit) (fun x10 σ11 =>
k1 2 σ11) fun k9 =>
if a0 < 0 then (
k9 () σ) else (
if a0 < (gS σ (64 * t + 15)) then (
k1 0 σ) else (
k9 () σ)))
theorem d_Md_ofThin_0 : decode prog_14_method_76_code 0 = .ok (.aload_n 0, 1) := by decide +kernel
theorem d_Md_ofThin_1 : decode prog_14_method_76_code 1 = .ok (.aload_n 0, 1) := by decide +kernel
theorem d_Md_ofThin_2 : decode prog_14_method_76_code 2 = .ok (.getfield 354, 3) := by decide +kernel
theorem d_Md_ofThin_5 : decode prog_14_method_76_code 5 = .ok (.ifCond .ne 7, 3) := by decide +kernel
theorem d_Md_ofThin_8 : decode prog_14_method_76_code 8 = .ok (.iconst 1, 1) := by decide +kernel
theorem d_Md_ofThin_9 : decode prog_14_method_76_code 9 = .ok (.goto 20, 3) := by decide +kernel
theorem d_Md_ofThin_12 : decode prog_14_method_76_code 12 = .ok (.iload_n 1, 1) := by decide +kernel
theorem d_Md_ofThin_13 : decode prog_14_method_76_code 13 = .ok (.ifCond .lt 11, 3) := by decide +kernel
theorem d_Md_ofThin_16 : decode prog_14_method_76_code 16 = .ok (.iload_n 1, 1) := by decide +kernel
theorem d_Md_ofThin_17 : decode prog_14_method_76_code 17 = .ok (.aload_n 0, 1) := by decide +kernel
theorem d_Md_ofThin_18 : decode prog_14_method_76_code 18 = .ok (.getfield 375, 3) := by decide +kernel
theorem d_Md_ofThin_21 : decode prog_14_method_76_code 21 = .ok (.if_icmp .lt 7, 3) := by decide +kernel
theorem d_Md_ofThin_24 : decode prog_14_method_76_code 24 = .ok (.iconst 2, 1) := by decide +kernel
theorem d_Md_ofThin_25 : decode prog_14_method_76_code 25 = .ok (.goto 4, 3) := by decide +kernel
theorem d_Md_ofThin_28 : decode prog_14_method_76_code 28 = .ok (.iconst 0, 1) := by decide +kernel
theorem d_Md_ofThin_29 : decode prog_14_method_76_code 29 = .ok (.putfield 67, 3) := by decide +kernel
theorem d_Md_ofThin_32 : decode prog_14_method_76_code 32 = .ok (.aload_n 0, 1) := by decide +kernel
theorem d_Md_ofThin_33 : decode prog_14_method_76_code 33 = .ok (.getfield 67, 3) := by decide +kernel
theorem d_Md_ofThin_36 : decode prog_14_method_76_code 36 = .ok (.ifCond .le 7, 3) := by decide +kernel
theorem d_Md_ofThin_39 : decode prog_14_method_76_code 39 = .ok (.iconst 0, 1) := by decide +kernel
theorem d_Md_ofThin_40 : decode prog_14_method_76_code 40 = .ok (.goto 9, 3) := by decide +kernel
theorem d_Md_ofThin_43 : decode prog_14_method_76_code 43 = .ok (.aload_n 0, 1) := by decide +kernel
theorem d_Md_ofThin_44 : decode prog_14_method_76_code 44 = .ok (.getfield 21, 3) := by decide +kernel
theorem d_Md_ofThin_47 : decode prog_14_method_76_code 47 = .ok (.iload_n 1, 1) := by decide +kernel
theorem d_Md_ofThin_48 : decode prog_14_method_76_code 48 = .ok (.iaload, 1) := by decide +kernel
theorem d_Md_ofThin_49 : decode prog_14_method_76_code 49 = .ok (.ireturn, 1) := by decide +kernel
set_option maxRecDepth 100000 in
set_option maxHeartbeats 4000000 in
theorem c_Md_ofThin {l0 : Launch} (hl : l0.stackTraces = false) (n : Nat) (ids : List Nat) {t : Nat} (ht : mm_ok ids t 1 12) (a0 : Int32) (σ : Mm) : kw_C l0 y_Md_ofThin (Cond.code y_Md_ofThin prog_14_method_76_code 2 (some .int) :: kw_Ts) rm_Md_ofThin kw_oi ids [] [.ref t, .int a0] σ (F_Md_ofThin n t a0 σ) := by
  refine kw_start (L0 := [some (.ref t), some (.int a0)]) hl (by decide +kernel) (Nat.le_of_ble_eq_true rfl) rfl (fun Γ ad C Ce => ?_)
  unfold F_Md_ofThin
  refine kw_aload_n C d_Md_ofThin_0 rfl ?_
  refine kw_aload_n C d_Md_ofThin_1 rfl ?_
  refine kw_getI C fi_Md_354 (Or.inr rfl) ht d_Md_ofThin_2 ?_
  refine kw_j (α := Int32) (pcj := 29) (Lj := fun x2 => [some (.ref t), some (.int a0)]) (stj := fun x2 => [.int x2, .ref t]) (fun x2 σ3 => ?_) (fun k1 hk1 => ?_)
  · refine kw_putI C fi_Md_67 rfl ht d_Md_ofThin_29 (fun σ4 => ?_)
    refine kw_aload_n C d_Md_ofThin_32 rfl ?_
    refine kw_getI C fi_Md_67 (Or.inl rfl) ht d_Md_ofThin_33 ?_
    refine kw_j (α := Int32) (pcj := 49) (Lj := fun x6 => [none, none]) (stj := fun x6 => [.int x6]) (fun x6 σ7 => ?_) (fun k5 hk5 => ?_)
    · exact kw_iret C Ce rfl (by simp) (fun _ _ => rfl) (Nat.le_of_ble_eq_true rfl) (Nat.le_of_ble_eq_true rfl) rfl d_Md_ofThin_49
    · refine kw_if_le (tgt := 43) C d_Md_ofThin_36 (by decide) ?_ ?_
      · refine kw_aload_n C d_Md_ofThin_43 rfl ?_
        refine kw_getR C fi_Md_21 rfl rfl ht d_Md_ofThin_44 (fun o8 ho8 => ?_)
        refine kw_iload_n C d_Md_ofThin_47 rfl ?_
        refine kw_iald C (Or.inl ⟨ho8.1, ho8.2.1⟩) d_Md_ofThin_48 ?_
        exact kw_wk (hk5 (gB σ4 o8 a0.toNatClampNeg) σ4) ⟨Or.inl rfl, Or.inl rfl, trivial⟩
      · refine kw_iconst (v := 0) C d_Md_ofThin_39 (by decide) ?_
        refine kw_goto (tgt := 49) C d_Md_ofThin_40 (by decide) ?_
        exact kw_wk (hk5 0 σ4) ⟨Or.inl rfl, Or.inl rfl, trivial⟩
  · refine kw_if_ne (tgt := 12) C d_Md_ofThin_5 (by decide) ?_ ?_
    · refine kw_iload_n C d_Md_ofThin_12 rfl ?_
      refine kw_j (α := Unit) (pcj := 24) (Lj := fun x10 => [some (.ref t), some (.int a0)]) (stj := fun x10 => [.ref t]) (fun x10 σ11 => ?_) (fun k9 hk9 => ?_)
      · refine kw_iconst (v := 2) C d_Md_ofThin_24 (by decide) ?_
        refine kw_goto (tgt := 29) C d_Md_ofThin_25 (by decide) ?_
        exact kw_wk (hk1 2 σ11) ⟨Or.inr rfl, Or.inr rfl, trivial⟩
      · refine kw_if_lt (tgt := 24) C d_Md_ofThin_13 (by decide) ?_ ?_
        · exact kw_wk (hk9 () σ) ⟨Or.inr rfl, Or.inr rfl, trivial⟩
        · refine kw_iload_n C d_Md_ofThin_16 rfl ?_
          refine kw_aload_n C d_Md_ofThin_17 rfl ?_
          refine kw_getI C fi_Md_375 (Or.inl rfl) ht d_Md_ofThin_18 ?_
          refine kw_icmp_lt (tgt := 28) C d_Md_ofThin_21 (by decide) ?_ ?_
          · refine kw_iconst (v := 0) C d_Md_ofThin_28 (by decide) ?_
            exact kw_wk (hk1 0 σ) ⟨Or.inr rfl, Or.inr rfl, trivial⟩
          · exact kw_wk (hk9 () σ) ⟨Or.inr rfl, Or.inr rfl, trivial⟩
    · refine kw_iconst (v := 1) C d_Md_ofThin_8 (by decide) ?_
      refine kw_goto (tgt := 29) C d_Md_ofThin_9 (by decide) ?_
      exact kw_wk (hk1 1 σ) ⟨Or.inr rfl, Or.inr rfl, trivial⟩
