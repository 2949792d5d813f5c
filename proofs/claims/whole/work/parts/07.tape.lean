theorem k_Tape_25 : Cond.constant "PictureFile$Tape" 25 (-306674912) ∈ kw_Ts := (kw_m1 (i := 41) (by decide +kernel) (by decide +kernel))
def y_Tape_eightSteps : MethodName := ⟨"PictureFile$Tape", "eightSteps", "(I)I"⟩
theorem w_Tape_eightSteps : Cond.code y_Tape_eightSteps prog_10_method_2_code 3 (some .int) ∈ kw_Ts := (kw_m1 (i := 40) (by decide +kernel) (by decide +kernel))
theorem fi_Tape_14 : kw_fi "PictureFile$Tape" 14 1 1 false := ⟨mmR_1, mmT_1, 3, rfl, rfl, by decide, mmI_1, mmY_1, mmN_1, rfl, (kw_m1 (i := 46) (by decide +kernel) (by decide +kernel))⟩
theorem k_Tape_9 : Cond.constant "PictureFile$Tape" 9 65536 ∈ kw_Ts := (kw_m1 (i := 37) (by decide +kernel) (by decide +kernel))
theorem fi_Tape_10 : kw_fi "PictureFile$Tape" 10 1 0 true := ⟨mmR_1, mmT_1, 3, rfl, rfl, by decide, mmI_1, mmY_1, mmN_1, rfl, (kw_m1 (i := 42) (by decide +kernel) (by decide +kernel))⟩
def y_Tape_add : MethodName := ⟨"PictureFile$Tape", "add", "(I)V"⟩
theorem w_Tape_add : Cond.code y_Tape_add prog_10_method_3_code 2 none ∈ kw_Ts := (kw_m4 (i := 63) (by decide +kernel) (by decide +kernel))
theorem in_Tape : Cond.initialized "PictureFile$Tape" ∈ kw_Ts := (kw_m1 (i := 2) (by decide +kernel) (by decide +kernel))
theorem mi_Tape_26 : kw_mi "PictureFile$Tape" 26 y_Tape_add prog_10_method_3_code 2 none 1 := ⟨(kw_m4 (i := 60) (by decide +kernel) (by decide +kernel)), w_Tape_add, in_Tape, by decide +kernel, by decide +kernel, by decide +kernel⟩
theorem v_Tape_add : Cond.instanceMethod y_Tape_add ∈ kw_Ts ∧ Cond.selects y_Tape_add.cls y_Tape_add y_Tape_add ∈ kw_Ts := ⟨(kw_m4 (i := 61) (by decide +kernel) (by decide +kernel)), (kw_m4 (i := 62) (by decide +kernel) (by decide +kernel))⟩
def y_Tape_addPair : MethodName := ⟨"PictureFile$Tape", "addPair", "(I)V"⟩
theorem w_Tape_addPair : Cond.code y_Tape_addPair prog_10_method_4_code 2 none ∈ kw_Ts := (kw_m4 (i := 59) (by decide +kernel) (by decide +kernel))
theorem mi_Tape_30 : kw_mi "PictureFile$Tape" 30 y_Tape_addPair prog_10_method_4_code 2 none 1 := ⟨(kw_m4 (i := 56) (by decide +kernel) (by decide +kernel)), w_Tape_addPair, in_Tape, by decide +kernel, by decide +kernel, by decide +kernel⟩
theorem v_Tape_addPair : Cond.instanceMethod y_Tape_addPair ∈ kw_Ts ∧ Cond.selects y_Tape_addPair.cls y_Tape_addPair y_Tape_addPair ∈ kw_Ts := ⟨(kw_m4 (i := 57) (by decide +kernel) (by decide +kernel)), (kw_m4 (i := 58) (by decide +kernel) (by decide +kernel))⟩
def y_Tape_addNumber : MethodName := ⟨"PictureFile$Tape", "addNumber", "(I)V"⟩
theorem w_Tape_addNumber : Cond.code y_Tape_addNumber prog_10_method_5_code 2 none ∈ kw_Ts := (kw_m4 (i := 55) (by decide +kernel) (by decide +kernel))
def y_Tape_putNumber : MethodName := ⟨"PictureFile$Tape", "putNumber", "(II)V"⟩
theorem w_Tape_putNumber : Cond.code y_Tape_putNumber prog_10_method_6_code 3 none ∈ kw_Ts := (kw_m5 (i := 27) (by decide +kernel) (by decide +kernel))
def y_Tape_pair : MethodName := ⟨"PictureFile$Tape", "pair", "(I)I"⟩
theorem w_Tape_pair : Cond.code y_Tape_pair prog_10_method_7_code 2 (some .int) ∈ kw_Ts := (kw_m2 (i := 233) (by decide +kernel) (by decide +kernel))
theorem mi_Tape_33 : kw_mi "PictureFile$Tape" 33 y_Tape_pair prog_10_method_7_code 2 (some .int) 1 := ⟨(kw_m2 (i := 230) (by decide +kernel) (by decide +kernel)), w_Tape_pair, in_Tape, by decide +kernel, by decide +kernel, by decide +kernel⟩
theorem v_Tape_pair : Cond.instanceMethod y_Tape_pair ∈ kw_Ts ∧ Cond.selects y_Tape_pair.cls y_Tape_pair y_Tape_pair ∈ kw_Ts := ⟨(kw_m2 (i := 231) (by decide +kernel) (by decide +kernel)), (kw_m2 (i := 232) (by decide +kernel) (by decide +kernel))⟩
def y_Tape_number : MethodName := ⟨"PictureFile$Tape", "number", "(I)I"⟩
theorem w_Tape_number : Cond.code y_Tape_number prog_10_method_8_code 2 (some .int) ∈ kw_Ts := (kw_m2 (i := 229) (by decide +kernel) (by decide +kernel))
theorem fi_Tape_18 : kw_fi "PictureFile$Tape" 18 1 2 true := ⟨mmR_1, mmT_1, 3, rfl, rfl, by decide, mmI_1, mmY_1, mmN_1, rfl, (kw_m1 (i := 50) (by decide +kernel) (by decide +kernel))⟩
def y_Tape_check : MethodName := ⟨"PictureFile$Tape", "check", "(II)I"⟩
theorem w_Tape_check : Cond.code y_Tape_check prog_10_method_9_code 5 (some .int) ∈ kw_Ts := (kw_m3 (i := 0) (by decide +kernel) (by decide +kernel))
/-! Tape_eightSteps -/
def rm_Tape_eightSteps : Room := { frames := 0, cells := 0, slots := 0, locals := 0 }
def F_Tape_eightSteps (n : Nat) (a0 : Int32) (σ : Mm) : Option (Int32 × Mm) :=
kf_l (α := Int32 × Int32) n (fun k1 x2 σ3 =>
if 8 ≤ x2.2 then (
some (x2.1, σ3)) else (
kf_j (α := Int32) (fun x5 σ6 =>
kf_let (x2.2 + Int32.ofInt 1) fun x7 =>
k1 (x5, x7) σ6) fun k4 =>
if (x2.1 &&& 1) = 1 then (
k4 (((x2.1.toUInt32 >>> ((1 : Int32).toUInt32 &&& Int32.toUInt32 31)).toInt32) ^^^ (-306674912)) σ3) else (
k4 ((x2.1.toUInt32 >>> ((1 : Int32).toUInt32 &&& Int32.toUInt32 31)).toInt32) σ3))) (a0, 0) σ
theorem d_Tape_eightSteps_0 : decode prog_10_method_2_code 0 = .ok (.iload_n 0, 1) := by decide +kernel
theorem d_Tape_eightSteps_1 : decode prog_10_method_2_code 1 = .ok (.istore_n 1, 1) := by decide +kernel
theorem d_Tape_eightSteps_2 : decode prog_10_method_2_code 2 = .ok (.iconst 0, 1) := by decide +kernel
theorem d_Tape_eightSteps_3 : decode prog_10_method_2_code 3 = .ok (.istore_n 2, 1) := by decide +kernel
theorem d_Tape_eightSteps_4 : decode prog_10_method_2_code 4 = .ok (.iload_n 2, 1) := by decide +kernel
theorem d_Tape_eightSteps_5 : decode prog_10_method_2_code 5 = .ok (.bipush 8, 2) := by decide +kernel
theorem d_Tape_eightSteps_7 : decode prog_10_method_2_code 7 = .ok (.if_icmp .ge 29, 3) := by decide +kernel
theorem d_Tape_eightSteps_10 : decode prog_10_method_2_code 10 = .ok (.iload_n 1, 1) := by decide +kernel
theorem d_Tape_eightSteps_11 : decode prog_10_method_2_code 11 = .ok (.iconst 1, 1) := by decide +kernel
theorem d_Tape_eightSteps_12 : decode prog_10_method_2_code 12 = .ok (.iand, 1) := by decide +kernel
theorem d_Tape_eightSteps_13 : decode prog_10_method_2_code 13 = .ok (.iconst 1, 1) := by decide +kernel
theorem d_Tape_eightSteps_14 : decode prog_10_method_2_code 14 = .ok (.if_icmp .ne 12, 3) := by decide +kernel
theorem d_Tape_eightSteps_17 : decode prog_10_method_2_code 17 = .ok (.iload_n 1, 1) := by decide +kernel
theorem d_Tape_eightSteps_18 : decode prog_10_method_2_code 18 = .ok (.iconst 1, 1) := by decide +kernel
theorem d_Tape_eightSteps_19 : decode prog_10_method_2_code 19 = .ok (.iushr, 1) := by decide +kernel
theorem d_Tape_eightSteps_20 : decode prog_10_method_2_code 20 = .ok (.ldc 25, 2) := by decide +kernel
theorem d_Tape_eightSteps_22 : decode prog_10_method_2_code 22 = .ok (.ixor, 1) := by decide +kernel
theorem d_Tape_eightSteps_23 : decode prog_10_method_2_code 23 = .ok (.goto 6, 3) := by decide +kernel
theorem d_Tape_eightSteps_26 : decode prog_10_method_2_code 26 = .ok (.iload_n 1, 1) := by decide +kernel
theorem d_Tape_eightSteps_27 : decode prog_10_method_2_code 27 = .ok (.iconst 1, 1) := by decide +kernel
theorem d_Tape_eightSteps_28 : decode prog_10_method_2_code 28 = .ok (.iushr, 1) := by decide +kernel
theorem d_Tape_eightSteps_29 : decode prog_10_method_2_code 29 = .ok (.istore_n 1, 1) := by decide +kernel
theorem d_Tape_eightSteps_30 : decode prog_10_method_2_code 30 = .ok (.iinc 2 1, 3) := by decide +kernel
theorem d_Tape_eightSteps_33 : decode prog_10_method_2_code 33 = .ok (.goto (-29), 3) := by decide +kernel
theorem d_Tape_eightSteps_36 : decode prog_10_method_2_code 36 = .ok (.iload_n 1, 1) := by decide +kernel
theorem d_Tape_eightSteps_37 : decode prog_10_method_2_code 37 = .ok (.ireturn, 1) := by decide +kernel
set_option maxRecDepth 100000 in
set_option maxHeartbeats 4000000 in
theorem c_Tape_eightSteps {l0 : Launch} (hl : l0.stackTraces = false) (n : Nat) (ids : List Nat)  (a0 : Int32) (σ : Mm) : kw_C l0 y_Tape_eightSteps (Cond.code y_Tape_eightSteps prog_10_method_2_code 3 (some .int) :: kw_Ts) rm_Tape_eightSteps kw_oi ids [] [.int a0] σ (F_Tape_eightSteps n a0 σ) := by
  refine kw_start (L0 := [some (.int a0), none, none]) hl (by decide +kernel) (Nat.le_of_ble_eq_true rfl) rfl (fun Γ ad C Ce => ?_)
  unfold F_Tape_eightSteps
  refine kw_iload_n C d_Tape_eightSteps_0 rfl ?_
  refine kw_istore_n (L' := [some (.int a0), some (.int a0), none]) C d_Tape_eightSteps_1 (by decide) rfl ?_
  refine kw_iconst (v := 0) C d_Tape_eightSteps_2 (by decide) ?_
  refine kw_istore_n (L' := [some (.int a0), some (.int a0), some (.int 0)]) C d_Tape_eightSteps_3 (by decide) rfl ?_
  refine kw_wk (kw_l (α := Int32 × Int32) (pc := 4) (Lj := fun x2 => [none, some (.int x2.1), some (.int x2.2)]) (stj := fun x2 => []) (fun k1 hk1 x2 σ3 => ?_) n (a0, 0) σ) ⟨Or.inl rfl, Or.inr rfl, Or.inr rfl, trivial⟩
  refine kw_iload_n C d_Tape_eightSteps_4 rfl ?_
  refine kw_bipush (v := 8) C d_Tape_eightSteps_5 (by decide) ?_
  refine kw_icmp_ge (tgt := 36) C d_Tape_eightSteps_7 (by decide) ?_ ?_
  · refine kw_iload_n C d_Tape_eightSteps_36 rfl ?_
    exact kw_iret C Ce rfl (by simp) (fun _ _ => rfl) (Nat.le_of_ble_eq_true rfl) (Nat.le_of_ble_eq_true rfl) rfl d_Tape_eightSteps_37
  · refine kw_iload_n C d_Tape_eightSteps_10 rfl ?_
    refine kw_iconst (v := 1) C d_Tape_eightSteps_11 (by decide) ?_
    refine kw_iand C d_Tape_eightSteps_12 ?_
    refine kw_iconst (v := 1) C d_Tape_eightSteps_13 (by decide) ?_
    refine kw_j (α := Int32) (pcj := 29) (Lj := fun x5 => [none, none, some (.int x2.2)]) (stj := fun x5 => [.int x5]) (fun x5 σ6 => ?_) (fun k4 hk4 => ?_)
    · refine kw_istore_n (L' := [none, some (.int x5), some (.int x2.2)]) C d_Tape_eightSteps_29 (by decide) rfl ?_
      refine kw_iincL (L2 := fun x7 => [none, some (.int x5), some (.int x7)]) C d_Tape_eightSteps_30 (by decide) rfl (fun _ => rfl) (fun x7 => ?_)
      refine kw_goto (tgt := 4) C d_Tape_eightSteps_33 (by decide) ?_
      exact kw_wk (hk1 (x5, x7) σ6) ⟨Or.inl rfl, Or.inr rfl, Or.inr rfl, trivial⟩
    · refine kw_icmp_ne (tgt := 26) C d_Tape_eightSteps_14 (by decide) ?_ ?_
      · refine kw_iload_n C d_Tape_eightSteps_26 rfl ?_
        refine kw_iconst (v := 1) C d_Tape_eightSteps_27 (by decide) ?_
        refine kw_iushr C d_Tape_eightSteps_28 ?_
        exact kw_wk (hk4 ((x2.1.toUInt32 >>> ((1 : Int32).toUInt32 &&& Int32.toUInt32 31)).toInt32) σ3) ⟨Or.inl rfl, Or.inl rfl, Or.inr rfl, trivial⟩
      · refine kw_iload_n C d_Tape_eightSteps_17 rfl ?_
        refine kw_iconst (v := 1) C d_Tape_eightSteps_18 (by decide) ?_
        refine kw_iushr C d_Tape_eightSteps_19 ?_
        refine kw_ldc (v := -306674912) C d_Tape_eightSteps_20 k_Tape_25 ?_
        refine kw_ixor C d_Tape_eightSteps_22 ?_
        refine kw_goto (tgt := 29) C d_Tape_eightSteps_23 (by decide) ?_
        exact kw_wk (hk4 (((x2.1.toUInt32 >>> ((1 : Int32).toUInt32 &&& Int32.toUInt32 31)).toInt32) ^^^ (-306674912)) σ3) ⟨Or.inl rfl, Or.inl rfl, Or.inr rfl, trivial⟩
/-! Tape_add -/
def rm_Tape_add : Room := { frames := 0, cells := 0, slots := 0, locals := 0 }
def F_Tape_add (n : Nat) (t : Nat) (a0 : Int32) (σ : Mm) : Option (Mm) :=
kf_j (α := Unit) (fun x2 σ3 =>
some σ3) fun k1 =>
if 65536 ≤ (gS σ (64 * t + 1)) then (
k1 () σ) else (
Option.bind (gR σ (64 * t + 0)) fun o4 =>
kf_in (gS σ (64 * t + 1)) (mm_kd o4).2.2 <| kf_let (pB σ o4 (gS σ (64 * t + 1)).toNatClampNeg (a0 &&& 255)) fun σ5 =>
kf_let (pS σ5 (64 * t + 1) ((gS σ5 (64 * t + 1)) + 1)) fun σ6 =>
k1 () σ6)
theorem d_Tape_add_0 : decode prog_10_method_3_code 0 = .ok (.aload_n 0, 1) := by decide +kernel
theorem d_Tape_add_1 : decode prog_10_method_3_code 1 = .ok (.getfield 14, 3) := by decide +kernel
theorem d_Tape_add_4 : decode prog_10_method_3_code 4 = .ok (.ldc 9, 2) := by decide +kernel
theorem d_Tape_add_6 : decode prog_10_method_3_code 6 = .ok (.if_icmp .ge 27, 3) := by decide +kernel
theorem d_Tape_add_9 : decode prog_10_method_3_code 9 = .ok (.aload_n 0, 1) := by decide +kernel
theorem d_Tape_add_10 : decode prog_10_method_3_code 10 = .ok (.getfield 10, 3) := by decide +kernel
theorem d_Tape_add_13 : decode prog_10_method_3_code 13 = .ok (.aload_n 0, 1) := by decide +kernel
theorem d_Tape_add_14 : decode prog_10_method_3_code 14 = .ok (.getfield 14, 3) := by decide +kernel
theorem d_Tape_add_17 : decode prog_10_method_3_code 17 = .ok (.iload_n 1, 1) := by decide +kernel
theorem d_Tape_add_18 : decode prog_10_method_3_code 18 = .ok (.sipush 255, 3) := by decide +kernel
theorem d_Tape_add_21 : decode prog_10_method_3_code 21 = .ok (.iand, 1) := by decide +kernel
theorem d_Tape_add_22 : decode prog_10_method_3_code 22 = .ok (.iastore, 1) := by decide +kernel
theorem d_Tape_add_23 : decode prog_10_method_3_code 23 = .ok (.aload_n 0, 1) := by decide +kernel
theorem d_Tape_add_24 : decode prog_10_method_3_code 24 = .ok (.dup, 1) := by decide +kernel
theorem d_Tape_add_25 : decode prog_10_method_3_code 25 = .ok (.getfield 14, 3) := by decide +kernel
theorem d_Tape_add_28 : decode prog_10_method_3_code 28 = .ok (.iconst 1, 1) := by decide +kernel
theorem d_Tape_add_29 : decode prog_10_method_3_code 29 = .ok (.iadd, 1) := by decide +kernel
theorem d_Tape_add_30 : decode prog_10_method_3_code 30 = .ok (.putfield 14, 3) := by decide +kernel
theorem d_Tape_add_33 : decode prog_10_method_3_code 33 = .ok (.return_, 1) := by decide +kernel
set_option maxRecDepth 100000 in
set_option maxHeartbeats 4000000 in
theorem c_Tape_add {l0 : Launch} (hl : l0.stackTraces = false) (n : Nat) (ids : List Nat) {t : Nat} (ht : mm_ok ids t 1 1) (a0 : Int32) (σ : Mm) : kw_C l0 y_Tape_add (Cond.code y_Tape_add prog_10_method_3_code 2 none :: kw_Ts) rm_Tape_add kw_ov ids [] [.ref t, .int a0] σ (F_Tape_add n t a0 σ) := by
  refine kw_start (L0 := [some (.ref t), some (.int a0)]) hl (by decide +kernel) (Nat.le_of_ble_eq_true rfl) rfl (fun Γ ad C Ce => ?_)
  unfold F_Tape_add
  refine kw_aload_n C d_Tape_add_0 rfl ?_
  refine kw_getI C fi_Tape_14 (Or.inl rfl) ht d_Tape_add_1 ?_
  refine kw_ldc (v := 65536) C d_Tape_add_4 k_Tape_9 ?_
  refine kw_j (α := Unit) (pcj := 33) (Lj := fun x2 => [none, none]) (stj := fun x2 => []) (fun x2 σ3 => ?_) (fun k1 hk1 => ?_)
  · exact kw_vret C Ce rfl (by simp) (fun _ _ => rfl) (Nat.le_of_ble_eq_true rfl) (Nat.le_of_ble_eq_true rfl) rfl d_Tape_add_33
  · refine kw_icmp_ge (tgt := 33) C d_Tape_add_6 (by decide) ?_ ?_
    · exact kw_wk (hk1 () σ) ⟨Or.inl rfl, Or.inl rfl, trivial⟩
    · refine kw_aload_n C d_Tape_add_9 rfl ?_
      refine kw_getR C fi_Tape_10 rfl rfl ht d_Tape_add_10 (fun o4 ho4 => ?_)
      refine kw_aload_n C d_Tape_add_13 rfl ?_
      refine kw_getI C fi_Tape_14 (Or.inl rfl) ht d_Tape_add_14 ?_
      refine kw_iload_n C d_Tape_add_17 rfl ?_
      refine kw_sipush (v := 255) C d_Tape_add_18 (by decide) ?_
      refine kw_iand C d_Tape_add_21 ?_
      refine kw_iast C ho4 d_Tape_add_22 (fun σ5 => ?_)
      refine kw_aload_n C d_Tape_add_23 rfl ?_
      refine kw_dup C d_Tape_add_24 rfl ?_
      refine kw_getI C fi_Tape_14 (Or.inl rfl) ht d_Tape_add_25 ?_
      refine kw_iconst (v := 1) C d_Tape_add_28 (by decide) ?_
      refine kw_iadd C d_Tape_add_29 ?_
      refine kw_putI C fi_Tape_14 rfl ht d_Tape_add_30 (fun σ6 => ?_)
      exact kw_wk (hk1 () σ6) ⟨Or.inl rfl, Or.inl rfl, trivial⟩
/-! Tape_addPair -/
def rm_Tape_addPair : Room := { frames := 1, cells := 0, slots := 0, locals := 21 }
def F_Tape_addPair (n : Nat) (t : Nat) (a0 : Int32) (σ : Mm) : Option (Mm) :=
Option.bind (F_Tape_add n t (a0 >>> (8 &&& 31)) σ) fun σ1 =>
Option.bind (F_Tape_add n t a0 σ1) fun σ2 =>
some σ2
theorem d_Tape_addPair_0 : decode prog_10_method_4_code 0 = .ok (.aload_n 0, 1) := by decide +kernel
theorem d_Tape_addPair_1 : decode prog_10_method_4_code 1 = .ok (.iload_n 1, 1) := by decide +kernel
theorem d_Tape_addPair_2 : decode prog_10_method_4_code 2 = .ok (.bipush 8, 2) := by decide +kernel
theorem d_Tape_addPair_4 : decode prog_10_method_4_code 4 = .ok (.ishr, 1) := by decide +kernel
theorem d_Tape_addPair_5 : decode prog_10_method_4_code 5 = .ok (.invokevirtual 26, 3) := by decide +kernel
theorem d_Tape_addPair_8 : decode prog_10_method_4_code 8 = .ok (.aload_n 0, 1) := by decide +kernel
theorem d_Tape_addPair_9 : decode prog_10_method_4_code 9 = .ok (.iload_n 1, 1) := by decide +kernel
theorem d_Tape_addPair_10 : decode prog_10_method_4_code 10 = .ok (.invokevirtual 26, 3) := by decide +kernel
theorem d_Tape_addPair_13 : decode prog_10_method_4_code 13 = .ok (.return_, 1) := by decide +kernel
set_option maxRecDepth 100000 in
set_option maxHeartbeats 4000000 in
theorem c_Tape_addPair {l0 : Launch} (hl : l0.stackTraces = false) (n : Nat) (ids : List Nat) {t : Nat} (ht : mm_ok ids t 1 1) (a0 : Int32) (σ : Mm) : kw_C l0 y_Tape_addPair (Cond.code y_Tape_addPair prog_10_method_4_code 2 none :: kw_Ts) rm_Tape_addPair kw_ov ids [] [.ref t, .int a0] σ (F_Tape_addPair n t a0 σ) := by
  refine kw_start (L0 := [some (.ref t), some (.int a0)]) hl (by decide +kernel) (Nat.le_of_ble_eq_true rfl) rfl (fun Γ ad C Ce => ?_)
  unfold F_Tape_addPair
  refine kw_aload_n C d_Tape_addPair_0 rfl ?_
  refine kw_iload_n C d_Tape_addPair_1 rfl ?_
  refine kw_bipush (v := 8) C d_Tape_addPair_2 (by decide) ?_
  refine kw_ishr C d_Tape_addPair_4 ?_
  refine kw_callVv (cl' := 0) (sl' := 0) (As := [.int (a0 >>> (8 &&& 31))]) C (c_Tape_add hl n ids ht (a0 >>> (8 &&& 31)) σ) mi_Tape_26 v_Tape_add ⟨_, _, rfl⟩ ht ⟨Nat.le_of_ble_eq_true rfl, Nat.le_of_ble_eq_true rfl⟩ (Nat.le_of_ble_eq_true rfl) ⟨Nat.le_of_ble_eq_true rfl, Nat.le_of_ble_eq_true rfl⟩ ⟨rfl, rfl⟩ rfl d_Tape_addPair_5 (fun σ1 => ?_)
  refine kw_aload_n C d_Tape_addPair_8 rfl ?_
  refine kw_iload_n C d_Tape_addPair_9 rfl ?_
  refine kw_callVv (cl' := 0) (sl' := 0) (As := [.int a0]) C (c_Tape_add hl n ids ht a0 σ1) mi_Tape_26 v_Tape_add ⟨_, _, rfl⟩ ht ⟨Nat.le_of_ble_eq_true rfl, Nat.le_of_ble_eq_true rfl⟩ (Nat.le_of_ble_eq_true rfl) ⟨Nat.le_of_ble_eq_true rfl, Nat.le_of_ble_eq_true rfl⟩ ⟨rfl, rfl⟩ rfl d_Tape_addPair_10 (fun σ2 => ?_)
  exact kw_vret C Ce rfl (by simp) (fun _ _ => rfl) (Nat.le_of_ble_eq_true rfl) (Nat.le_of_ble_eq_true rfl) rfl d_Tape_addPair_13
/-! Tape_addNumber -/
def rm_Tape_addNumber : Room := { frames := 2, cells := 0, slots := 0, locals := 42 }
def F_Tape_addNumber (n : Nat) (t : Nat) (a0 : Int32) (σ : Mm) : Option (Mm) :=
Option.bind (F_Tape_addPair n t (a0 >>> (16 &&& 31)) σ) fun σ1 =>
Option.bind (F_Tape_addPair n t a0 σ1) fun σ2 =>
some σ2
theorem d_Tape_addNumber_0 : decode prog_10_method_5_code 0 = .ok (.aload_n 0, 1) := by decide +kernel
theorem d_Tape_addNumber_1 : decode prog_10_method_5_code 1 = .ok (.iload_n 1, 1) := by decide +kernel
theorem d_Tape_addNumber_2 : decode prog_10_method_5_code 2 = .ok (.bipush 16, 2) := by decide +kernel
theorem d_Tape_addNumber_4 : decode prog_10_method_5_code 4 = .ok (.ishr, 1) := by decide +kernel
theorem d_Tape_addNumber_5 : decode prog_10_method_5_code 5 = .ok (.invokevirtual 30, 3) := by decide +kernel
theorem d_Tape_addNumber_8 : decode prog_10_method_5_code 8 = .ok (.aload_n 0, 1) := by decide +kernel
theorem d_Tape_addNumber_9 : decode prog_10_method_5_code 9 = .ok (.iload_n 1, 1) := by decide +kernel
theorem d_Tape_addNumber_10 : decode prog_10_method_5_code 10 = .ok (.invokevirtual 30, 3) := by decide +kernel
theorem d_Tape_addNumber_13 : decode prog_10_method_5_code 13 = .ok (.return_, 1) := by decide +kernel
set_option maxRecDepth 100000 in
set_option maxHeartbeats 4000000 in
theorem c_Tape_addNumber {l0 : Launch} (hl : l0.stackTraces = false) (n : Nat) (ids : List Nat) {t : Nat} (ht : mm_ok ids t 1 1) (a0 : Int32) (σ : Mm) : kw_C l0 y_Tape_addNumber (Cond.code y_Tape_addNumber prog_10_method_5_code 2 none :: kw_Ts) rm_Tape_addNumber kw_ov ids [] [.ref t, .int a0] σ (F_Tape_addNumber n t a0 σ) := by
  refine kw_start (L0 := [some (.ref t), some (.int a0)]) hl (by decide +kernel) (Nat.le_of_ble_eq_true rfl) rfl (fun Γ ad C Ce => ?_)
  unfold F_Tape_addNumber
  refine kw_aload_n C d_Tape_addNumber_0 rfl ?_
  refine kw_iload_n C d_Tape_addNumber_1 rfl ?_
  refine kw_bipush (v := 16) C d_Tape_addNumber_2 (by decide) ?_
  refine kw_ishr C d_Tape_addNumber_4 ?_
  refine kw_callVv (cl' := 0) (sl' := 0) (As := [.int (a0 >>> (16 &&& 31))]) C (c_Tape_addPair hl n ids ht (a0 >>> (16 &&& 31)) σ) mi_Tape_30 v_Tape_addPair ⟨_, _, rfl⟩ ht ⟨Nat.le_of_ble_eq_true rfl, Nat.le_of_ble_eq_true rfl⟩ (Nat.le_of_ble_eq_true rfl) ⟨Nat.le_of_ble_eq_true rfl, Nat.le_of_ble_eq_true rfl⟩ ⟨rfl, rfl⟩ rfl d_Tape_addNumber_5 (fun σ1 => ?_)
  refine kw_aload_n C d_Tape_addNumber_8 rfl ?_
  refine kw_iload_n C d_Tape_addNumber_9 rfl ?_
  refine kw_callVv (cl' := 0) (sl' := 0) (As := [.int a0]) C (c_Tape_addPair hl n ids ht a0 σ1) mi_Tape_30 v_Tape_addPair ⟨_, _, rfl⟩ ht ⟨Nat.le_of_ble_eq_true rfl, Nat.le_of_ble_eq_true rfl⟩ (Nat.le_of_ble_eq_true rfl) ⟨Nat.le_of_ble_eq_true rfl, Nat.le_of_ble_eq_true rfl⟩ ⟨rfl, rfl⟩ rfl d_Tape_addNumber_10 (fun σ2 => ?_)
  exact kw_vret C Ce rfl (by simp) (fun _ _ => rfl) (Nat.le_of_ble_eq_true rfl) (Nat.le_of_ble_eq_true rfl) rfl d_Tape_addNumber_13
/-! Tape_putNumber -/
def rm_Tape_putNumber : Room := { frames := 0, cells := 0, slots := 0, locals := 0 }
def F_Tape_putNumber (n : Nat) (t : Nat) (a0 : Int32) (a1 : Int32) (σ : Mm) : Option (Mm) :=
Option.bind (gR σ (64 * t + 0)) fun o1 =>
kf_in a0 (mm_kd o1).2.2 <| kf_let (pB σ o1 a0.toNatClampNeg ((a1.toUInt32 >>> ((24 : Int32).toUInt32 &&& Int32.toUInt32 31)).toInt32)) fun σ2 =>
Option.bind (gR σ2 (64 * t + 0)) fun o3 =>
kf_in (a0 + 1) (mm_kd o3).2.2 <| kf_let (pB σ2 o3 (a0 + 1).toNatClampNeg ((a1 >>> (16 &&& 31)) &&& 255)) fun σ4 =>
Option.bind (gR σ4 (64 * t + 0)) fun o5 =>
kf_in (a0 + 2) (mm_kd o5).2.2 <| kf_let (pB σ4 o5 (a0 + 2).toNatClampNeg ((a1 >>> (8 &&& 31)) &&& 255)) fun σ6 =>
Option.bind (gR σ6 (64 * t + 0)) fun o7 =>
kf_in (a0 + 3) (mm_kd o7).2.2 <| kf_let (pB σ6 o7 (a0 + 3).toNatClampNeg (a1 &&& 255)) fun σ8 =>
some σ8
theorem d_Tape_putNumber_0 : decode prog_10_method_6_code 0 = .ok (.aload_n 0, 1) := by decide +kernel
theorem d_Tape_putNumber_1 : decode prog_10_method_6_code 1 = .ok (.getfield 10, 3) := by decide +kernel
theorem d_Tape_putNumber_4 : decode prog_10_method_6_code 4 = .ok (.iload_n 1, 1) := by decide +kernel
theorem d_Tape_putNumber_5 : decode prog_10_method_6_code 5 = .ok (.iload_n 2, 1) := by decide +kernel
theorem d_Tape_putNumber_6 : decode prog_10_method_6_code 6 = .ok (.bipush 24, 2) := by decide +kernel
theorem d_Tape_putNumber_8 : decode prog_10_method_6_code 8 = .ok (.iushr, 1) := by decide +kernel
theorem d_Tape_putNumber_9 : decode prog_10_method_6_code 9 = .ok (.iastore, 1) := by decide +kernel
theorem d_Tape_putNumber_10 : decode prog_10_method_6_code 10 = .ok (.aload_n 0, 1) := by decide +kernel
theorem d_Tape_putNumber_11 : decode prog_10_method_6_code 11 = .ok (.getfield 10, 3) := by decide +kernel
theorem d_Tape_putNumber_14 : decode prog_10_method_6_code 14 = .ok (.iload_n 1, 1) := by decide +kernel
theorem d_Tape_putNumber_15 : decode prog_10_method_6_code 15 = .ok (.iconst 1, 1) := by decide +kernel
theorem d_Tape_putNumber_16 : decode prog_10_method_6_code 16 = .ok (.iadd, 1) := by decide +kernel
theorem d_Tape_putNumber_17 : decode prog_10_method_6_code 17 = .ok (.iload_n 2, 1) := by decide +kernel
theorem d_Tape_putNumber_18 : decode prog_10_method_6_code 18 = .ok (.bipush 16, 2) := by decide +kernel
theorem d_Tape_putNumber_20 : decode prog_10_method_6_code 20 = .ok (.ishr, 1) := by decide +kernel
theorem d_Tape_putNumber_21 : decode prog_10_method_6_code 21 = .ok (.sipush 255, 3) := by decide +kernel
theorem d_Tape_putNumber_24 : decode prog_10_method_6_code 24 = .ok (.iand, 1) := by decide +kernel
theorem d_Tape_putNumber_25 : decode prog_10_method_6_code 25 = .ok (.iastore, 1) := by decide +kernel
theorem d_Tape_putNumber_26 : decode prog_10_method_6_code 26 = .ok (.aload_n 0, 1) := by decide +kernel
theorem d_Tape_putNumber_27 : decode prog_10_method_6_code 27 = .ok (.getfield 10, 3) := by decide +kernel
theorem d_Tape_putNumber_30 : decode prog_10_method_6_code 30 = .ok (.iload_n 1, 1) := by decide +kernel
theorem d_Tape_putNumber_31 : decode prog_10_method_6_code 31 = .ok (.iconst 2, 1) := by decide +kernel
theorem d_Tape_putNumber_32 : decode prog_10_method_6_code 32 = .ok (.iadd, 1) := by decide +kernel
theorem d_Tape_putNumber_33 : decode prog_10_method_6_code 33 = .ok (.iload_n 2, 1) := by decide +kernel
theorem d_Tape_putNumber_34 : decode prog_10_method_6_code 34 = .ok (.bipush 8, 2) := by decide +kernel
theorem d_Tape_putNumber_36 : decode prog_10_method_6_code 36 = .ok (.ishr, 1) := by decide +kernel
theorem d_Tape_putNumber_37 : decode prog_10_method_6_code 37 = .ok (.sipush 255, 3) := by decide +kernel
theorem d_Tape_putNumber_40 : decode prog_10_method_6_code 40 = .ok (.iand, 1) := by decide +kernel
theorem d_Tape_putNumber_41 : decode prog_10_method_6_code 41 = .ok (.iastore, 1) := by decide +kernel
theorem d_Tape_putNumber_42 : decode prog_10_method_6_code 42 = .ok (.aload_n 0, 1) := by decide +kernel
theorem d_Tape_putNumber_43 : decode prog_10_method_6_code 43 = .ok (.getfield 10, 3) := by decide +kernel
theorem d_Tape_putNumber_46 : decode prog_10_method_6_code 46 = .ok (.iload_n 1, 1) := by decide +kernel
theorem d_Tape_putNumber_47 : decode prog_10_method_6_code 47 = .ok (.iconst 3, 1) := by decide +kernel
theorem d_Tape_putNumber_48 : decode prog_10_method_6_code 48 = .ok (.iadd, 1) := by decide +kernel
theorem d_Tape_putNumber_49 : decode prog_10_method_6_code 49 = .ok (.iload_n 2, 1) := by decide +kernel
theorem d_Tape_putNumber_50 : decode prog_10_method_6_code 50 = .ok (.sipush 255, 3) := by decide +kernel
theorem d_Tape_putNumber_53 : decode prog_10_method_6_code 53 = .ok (.iand, 1) := by decide +kernel
theorem d_Tape_putNumber_54 : decode prog_10_method_6_code 54 = .ok (.iastore, 1) := by decide +kernel
theorem d_Tape_putNumber_55 : decode prog_10_method_6_code 55 = .ok (.return_, 1) := by decide +kernel
set_option maxRecDepth 100000 in
set_option maxHeartbeats 4000000 in
theorem c_Tape_putNumber {l0 : Launch} (hl : l0.stackTraces = false) (n : Nat) (ids : List Nat) {t : Nat} (ht : mm_ok ids t 1 1) (a0 : Int32) (a1 : Int32) (σ : Mm) : kw_C l0 y_Tape_putNumber (Cond.code y_Tape_putNumber prog_10_method_6_code 3 none :: kw_Ts) rm_Tape_putNumber kw_ov ids [] [.ref t, .int a0, .int a1] σ (F_Tape_putNumber n t a0 a1 σ) := by
  refine kw_start (L0 := [some (.ref t), some (.int a0), some (.int a1)]) hl (by decide +kernel) (Nat.le_of_ble_eq_true rfl) rfl (fun Γ ad C Ce => ?_)
  unfold F_Tape_putNumber
  refine kw_aload_n C d_Tape_putNumber_0 rfl ?_
  refine kw_getR C fi_Tape_10 rfl rfl ht d_Tape_putNumber_1 (fun o1 ho1 => ?_)
  refine kw_iload_n C d_Tape_putNumber_4 rfl ?_
  refine kw_iload_n C d_Tape_putNumber_5 rfl ?_
  refine kw_bipush (v := 24) C d_Tape_putNumber_6 (by decide) ?_
  refine kw_iushr C d_Tape_putNumber_8 ?_
  refine kw_iast C ho1 d_Tape_putNumber_9 (fun σ2 => ?_)
  refine kw_aload_n C d_Tape_putNumber_10 rfl ?_
  refine kw_getR C fi_Tape_10 rfl rfl ht d_Tape_putNumber_11 (fun o3 ho3 => ?_)
  refine kw_iload_n C d_Tape_putNumber_14 rfl ?_
  refine kw_iconst (v := 1) C d_Tape_putNumber_15 (by decide) ?_
  refine kw_iadd C d_Tape_putNumber_16 ?_
  refine kw_iload_n C d_Tape_putNumber_17 rfl ?_
  refine kw_bipush (v := 16) C d_Tape_putNumber_18 (by decide) ?_
  refine kw_ishr C d_Tape_putNumber_20 ?_
  refine kw_sipush (v := 255) C d_Tape_putNumber_21 (by decide) ?_
  refine kw_iand C d_Tape_putNumber_24 ?_
  refine kw_iast C ho3 d_Tape_putNumber_25 (fun σ4 => ?_)
  refine kw_aload_n C d_Tape_putNumber_26 rfl ?_
  refine kw_getR C fi_Tape_10 rfl rfl ht d_Tape_putNumber_27 (fun o5 ho5 => ?_)
  refine kw_iload_n C d_Tape_putNumber_30 rfl ?_
  refine kw_iconst (v := 2) C d_Tape_putNumber_31 (by decide) ?_
  refine kw_iadd C d_Tape_putNumber_32 ?_
  refine kw_iload_n C d_Tape_putNumber_33 rfl ?_
  refine kw_bipush (v := 8) C d_Tape_putNumber_34 (by decide) ?_
  refine kw_ishr C d_Tape_putNumber_36 ?_
  refine kw_sipush (v := 255) C d_Tape_putNumber_37 (by decide) ?_
  refine kw_iand C d_Tape_putNumber_40 ?_
  refine kw_iast C ho5 d_Tape_putNumber_41 (fun σ6 => ?_)
  refine kw_aload_n C d_Tape_putNumber_42 rfl ?_
  refine kw_getR C fi_Tape_10 rfl rfl ht d_Tape_putNumber_43 (fun o7 ho7 => ?_)
  refine kw_iload_n C d_Tape_putNumber_46 rfl ?_
  refine kw_iconst (v := 3) C d_Tape_putNumber_47 (by decide) ?_
  refine kw_iadd C d_Tape_putNumber_48 ?_
  refine kw_iload_n C d_Tape_putNumber_49 rfl ?_
  refine kw_sipush (v := 255) C d_Tape_putNumber_50 (by decide) ?_
  refine kw_iand C d_Tape_putNumber_53 ?_
  refine kw_iast C ho7 d_Tape_putNumber_54 (fun σ8 => ?_)
  exact kw_vret C Ce rfl (by simp) (fun _ _ => rfl) (Nat.le_of_ble_eq_true rfl) (Nat.le_of_ble_eq_true rfl) rfl d_Tape_putNumber_55
/-! Tape_pair -/
def rm_Tape_pair : Room := { frames := 0, cells := 0, slots := 0, locals := 0 }
def F_Tape_pair (n : Nat) (t : Nat) (a0 : Int32) (σ : Mm) : Option (Int32 × Mm) :=
Option.bind (gR σ (64 * t + 0)) fun o1 =>
kf_in a0 (mm_kd o1).2.2 <|
Option.bind (gR σ (64 * t + 0)) fun o2 =>
kf_let (a0 + 1 : Int32) fun x3 =>
kf_in x3 (mm_kd o2).2.2 <|
some (((gB σ o1 a0.toNatClampNeg) <<< (8 &&& 31)) ||| (gB σ o2 x3.toNatClampNeg), σ)
theorem d_Tape_pair_0 : decode prog_10_method_7_code 0 = .ok (.aload_n 0, 1) := by decide +kernel
theorem d_Tape_pair_1 : decode prog_10_method_7_code 1 = .ok (.getfield 10, 3) := by decide +kernel
theorem d_Tape_pair_4 : decode prog_10_method_7_code 4 = .ok (.iload_n 1, 1) := by decide +kernel
theorem d_Tape_pair_5 : decode prog_10_method_7_code 5 = .ok (.iaload, 1) := by decide +kernel
theorem d_Tape_pair_6 : decode prog_10_method_7_code 6 = .ok (.bipush 8, 2) := by decide +kernel
theorem d_Tape_pair_8 : decode prog_10_method_7_code 8 = .ok (.ishl, 1) := by decide +kernel
theorem d_Tape_pair_9 : decode prog_10_method_7_code 9 = .ok (.aload_n 0, 1) := by decide +kernel
theorem d_Tape_pair_10 : decode prog_10_method_7_code 10 = .ok (.getfield 10, 3) := by decide +kernel
theorem d_Tape_pair_13 : decode prog_10_method_7_code 13 = .ok (.iload_n 1, 1) := by decide +kernel
theorem d_Tape_pair_14 : decode prog_10_method_7_code 14 = .ok (.iconst 1, 1) := by decide +kernel
theorem d_Tape_pair_15 : decode prog_10_method_7_code 15 = .ok (.iadd, 1) := by decide +kernel
theorem d_Tape_pair_16 : decode prog_10_method_7_code 16 = .ok (.iaload, 1) := by decide +kernel
theorem d_Tape_pair_17 : decode prog_10_method_7_code 17 = .ok (.ior, 1) := by decide +kernel
theorem d_Tape_pair_18 : decode prog_10_method_7_code 18 = .ok (.ireturn, 1) := by decide +kernel
set_option maxRecDepth 100000 in
set_option maxHeartbeats 4000000 in
theorem c_Tape_pair {l0 : Launch} (hl : l0.stackTraces = false) (n : Nat) (ids : List Nat) {t : Nat} (ht : mm_ok ids t 1 1) (a0 : Int32) (σ : Mm) : kw_C l0 y_Tape_pair (Cond.code y_Tape_pair prog_10_method_7_code 2 (some .int) :: kw_Ts) rm_Tape_pair kw_oi ids [] [.ref t, .int a0] σ (F_Tape_pair n t a0 σ) := by
  refine kw_start (L0 := [some (.ref t), some (.int a0)]) hl (by decide +kernel) (Nat.le_of_ble_eq_true rfl) rfl (fun Γ ad C Ce => ?_)
  unfold F_Tape_pair
  refine kw_aload_n C d_Tape_pair_0 rfl ?_
  refine kw_getR C fi_Tape_10 rfl rfl ht d_Tape_pair_1 (fun o1 ho1 => ?_)
  refine kw_iload_n C d_Tape_pair_4 rfl ?_
  refine kw_iald C (Or.inl ⟨ho1.1, ho1.2.1⟩) d_Tape_pair_5 ?_
  refine kw_bipush (v := 8) C d_Tape_pair_6 (by decide) ?_
  refine kw_ishl C d_Tape_pair_8 ?_
  refine kw_aload_n C d_Tape_pair_9 rfl ?_
  refine kw_getR C fi_Tape_10 rfl rfl ht d_Tape_pair_10 (fun o2 ho2 => ?_)
  refine kw_iload_n C d_Tape_pair_13 rfl ?_
  refine kw_iconst (v := 1) C d_Tape_pair_14 (by decide) ?_
  refine kw_iadd C d_Tape_pair_15 ?_
  refine kw_leti (fun x3 => ?_)
  refine kw_iald C (Or.inl ⟨ho2.1, ho2.2.1⟩) d_Tape_pair_16 ?_
  refine kw_ior C d_Tape_pair_17 ?_
  exact kw_iret C Ce rfl (by simp) (fun _ _ => rfl) (Nat.le_of_ble_eq_true rfl) (Nat.le_of_ble_eq_true rfl) rfl d_Tape_pair_18
/-! Tape_number -/
def rm_Tape_number : Room := { frames := 1, cells := 0, slots := 0, locals := 21 }
def F_Tape_number (n : Nat) (t : Nat) (a0 : Int32) (σ : Mm) : Option (Int32 × Mm) :=
kf_c2 (F_Tape_pair n t a0 σ) fun x1 σ2 =>
kf_c2 (F_Tape_pair n t (a0 + 2) σ2) fun x3 σ4 =>
some ((x1 <<< (16 &&& 31)) ||| x3, σ4)
theorem d_Tape_number_0 : decode prog_10_method_8_code 0 = .ok (.aload_n 0, 1) := by decide +kernel
theorem d_Tape_number_1 : decode prog_10_method_8_code 1 = .ok (.iload_n 1, 1) := by decide +kernel
theorem d_Tape_number_2 : decode prog_10_method_8_code 2 = .ok (.invokevirtual 33, 3) := by decide +kernel
theorem d_Tape_number_5 : decode prog_10_method_8_code 5 = .ok (.bipush 16, 2) := by decide +kernel
theorem d_Tape_number_7 : decode prog_10_method_8_code 7 = .ok (.ishl, 1) := by decide +kernel
theorem d_Tape_number_8 : decode prog_10_method_8_code 8 = .ok (.aload_n 0, 1) := by decide +kernel
theorem d_Tape_number_9 : decode prog_10_method_8_code 9 = .ok (.iload_n 1, 1) := by decide +kernel
theorem d_Tape_number_10 : decode prog_10_method_8_code 10 = .ok (.iconst 2, 1) := by decide +kernel
theorem d_Tape_number_11 : decode prog_10_method_8_code 11 = .ok (.iadd, 1) := by decide +kernel
theorem d_Tape_number_12 : decode prog_10_method_8_code 12 = .ok (.invokevirtual 33, 3) := by decide +kernel
theorem d_Tape_number_15 : decode prog_10_method_8_code 15 = .ok (.ior, 1) := by decide +kernel
theorem d_Tape_number_16 : decode prog_10_method_8_code 16 = .ok (.ireturn, 1) := by decide +kernel
set_option maxRecDepth 100000 in
set_option maxHeartbeats 4000000 in
theorem c_Tape_number {l0 : Launch} (hl : l0.stackTraces = false) (n : Nat) (ids : List Nat) {t : Nat} (ht : mm_ok ids t 1 1) (a0 : Int32) (σ : Mm) : kw_C l0 y_Tape_number (Cond.code y_Tape_number prog_10_method_8_code 2 (some .int) :: kw_Ts) rm_Tape_number kw_oi ids [] [.ref t, .int a0] σ (F_Tape_number n t a0 σ) := by
  refine kw_start (L0 := [some (.ref t), some (.int a0)]) hl (by decide +kernel) (Nat.le_of_ble_eq_true rfl) rfl (fun Γ ad C Ce => ?_)
  unfold F_Tape_number
  refine kw_aload_n C d_Tape_number_0 rfl ?_
  refine kw_iload_n C d_Tape_number_1 rfl ?_
  refine kw_callVi (cl' := 0) (sl' := 0) (As := [.int a0]) C (c_Tape_pair hl n ids ht a0 σ) mi_Tape_33 v_Tape_pair ⟨_, _, rfl⟩ ht ⟨Nat.le_of_ble_eq_true rfl, Nat.le_of_ble_eq_true rfl⟩ (Nat.le_of_ble_eq_true rfl) ⟨Nat.le_of_ble_eq_true rfl, Nat.le_of_ble_eq_true rfl⟩ ⟨rfl, rfl⟩ rfl d_Tape_number_2 (fun x1 σ2 => ?_)
  refine kw_bipush (v := 16) C d_Tape_number_5 (by decide) ?_
  refine kw_ishl C d_Tape_number_7 ?_
  refine kw_aload_n C d_Tape_number_8 rfl ?_
  refine kw_iload_n C d_Tape_number_9 rfl ?_
  refine kw_iconst (v := 2) C d_Tape_number_10 (by decide) ?_
  refine kw_iadd C d_Tape_number_11 ?_
  refine kw_callVi (cl' := 0) (sl' := 0) (As := [.int (a0 + 2)]) C (c_Tape_pair hl n ids ht (a0 + 2) σ2) mi_Tape_33 v_Tape_pair ⟨_, _, rfl⟩ ht ⟨Nat.le_of_ble_eq_true rfl, Nat.le_of_ble_eq_true rfl⟩ (Nat.le_of_ble_eq_true rfl) ⟨Nat.le_of_ble_eq_true rfl, Nat.le_of_ble_eq_true rfl⟩ ⟨rfl, rfl⟩ rfl d_Tape_number_12 (fun x3 σ4 => ?_)
  refine kw_ior C d_Tape_number_15 ?_
  exact kw_iret C Ce rfl (by simp) (fun _ _ => rfl) (Nat.le_of_ble_eq_true rfl) (Nat.le_of_ble_eq_true rfl) rfl d_Tape_number_16
/-! Tape_check -/
def rm_Tape_check : Room := { frames := 0, cells := 0, slots := 0, locals := 0 }
def F_Tape_check (n : Nat) (t : Nat) (a0 : Int32) (a1 : Int32) (σ : Mm) : Option (Int32 × Mm) :=
kf_let (-1 : Int32) fun x1 =>
kf_l (α := Int32 × Int32) n (fun k2 x3 σ4 =>
if a1 ≤ x3.2 then (
some (x3.1 ^^^ (-1), σ4)) else (
Option.bind (gR σ4 (64 * t + 2)) fun o5 =>
Option.bind (gR σ4 (64 * t + 0)) fun o6 =>
kf_in x3.2 (mm_kd o6).2.2 <|
kf_let ((x3.1 ^^^ (gB σ4 o6 x3.2.toNatClampNeg)) &&& 255 : Int32) fun x7 =>
kf_in x7 (mm_kd o5).2.2 <|
kf_let (((x3.1.toUInt32 >>> ((8 : Int32).toUInt32 &&& Int32.toUInt32 31)).toInt32) ^^^ (gB σ4 o5 x7.toNatClampNeg) : Int32) fun x8 =>
kf_let (x3.2 + Int32.ofInt 1) fun x9 =>
k2 (x8, x9) σ4)) (x1, a0) σ
theorem d_Tape_check_0 : decode prog_10_method_9_code 0 = .ok (.iconst (-1), 1) := by decide +kernel
theorem d_Tape_check_1 : decode prog_10_method_9_code 1 = .ok (.istore_n 3, 1) := by decide +kernel
theorem d_Tape_check_2 : decode prog_10_method_9_code 2 = .ok (.iload_n 1, 1) := by decide +kernel
theorem d_Tape_check_3 : decode prog_10_method_9_code 3 = .ok (.istore 4, 2) := by decide +kernel
theorem d_Tape_check_5 : decode prog_10_method_9_code 5 = .ok (.iload 4, 2) := by decide +kernel
theorem d_Tape_check_7 : decode prog_10_method_9_code 7 = .ok (.iload_n 2, 1) := by decide +kernel
theorem d_Tape_check_8 : decode prog_10_method_9_code 8 = .ok (.if_icmp .ge 33, 3) := by decide +kernel
theorem d_Tape_check_11 : decode prog_10_method_9_code 11 = .ok (.iload_n 3, 1) := by decide +kernel
theorem d_Tape_check_12 : decode prog_10_method_9_code 12 = .ok (.bipush 8, 2) := by decide +kernel
theorem d_Tape_check_14 : decode prog_10_method_9_code 14 = .ok (.iushr, 1) := by decide +kernel
theorem d_Tape_check_15 : decode prog_10_method_9_code 15 = .ok (.aload_n 0, 1) := by decide +kernel
theorem d_Tape_check_16 : decode prog_10_method_9_code 16 = .ok (.getfield 18, 3) := by decide +kernel
theorem d_Tape_check_19 : decode prog_10_method_9_code 19 = .ok (.iload_n 3, 1) := by decide +kernel
theorem d_Tape_check_20 : decode prog_10_method_9_code 20 = .ok (.aload_n 0, 1) := by decide +kernel
theorem d_Tape_check_21 : decode prog_10_method_9_code 21 = .ok (.getfield 10, 3) := by decide +kernel
theorem d_Tape_check_24 : decode prog_10_method_9_code 24 = .ok (.iload 4, 2) := by decide +kernel
theorem d_Tape_check_26 : decode prog_10_method_9_code 26 = .ok (.iaload, 1) := by decide +kernel
theorem d_Tape_check_27 : decode prog_10_method_9_code 27 = .ok (.ixor, 1) := by decide +kernel
theorem d_Tape_check_28 : decode prog_10_method_9_code 28 = .ok (.sipush 255, 3) := by decide +kernel
theorem d_Tape_check_31 : decode prog_10_method_9_code 31 = .ok (.iand, 1) := by decide +kernel
theorem d_Tape_check_32 : decode prog_10_method_9_code 32 = .ok (.iaload, 1) := by decide +kernel
theorem d_Tape_check_33 : decode prog_10_method_9_code 33 = .ok (.ixor, 1) := by decide +kernel
theorem d_Tape_check_34 : decode prog_10_method_9_code 34 = .ok (.istore_n 3, 1) := by decide +kernel
theorem d_Tape_check_35 : decode prog_10_method_9_code 35 = .ok (.iinc 4 1, 3) := by decide +kernel
theorem d_Tape_check_38 : decode prog_10_method_9_code 38 = .ok (.goto (-33), 3) := by decide +kernel
theorem d_Tape_check_41 : decode prog_10_method_9_code 41 = .ok (.iload_n 3, 1) := by decide +kernel
theorem d_Tape_check_42 : decode prog_10_method_9_code 42 = .ok (.iconst (-1), 1) := by decide +kernel
theorem d_Tape_check_43 : decode prog_10_method_9_code 43 = .ok (.ixor, 1) := by decide +kernel
theorem d_Tape_check_44 : decode prog_10_method_9_code 44 = .ok (.ireturn, 1) := by decide +kernel
set_option maxRecDepth 100000 in
set_option maxHeartbeats 4000000 in
theorem c_Tape_check {l0 : Launch} (hl : l0.stackTraces = false) (n : Nat) (ids : List Nat) {t : Nat} (ht : mm_ok ids t 1 1) (a0 : Int32) (a1 : Int32) (σ : Mm) : kw_C l0 y_Tape_check (Cond.code y_Tape_check prog_10_method_9_code 5 (some .int) :: kw_Ts) rm_Tape_check kw_oi ids [] [.ref t, .int a0, .int a1] σ (F_Tape_check n t a0 a1 σ) := by
  refine kw_start (L0 := [some (.ref t), some (.int a0), some (.int a1), none, none]) hl (by decide +kernel) (Nat.le_of_ble_eq_true rfl) rfl (fun Γ ad C Ce => ?_)
  unfold F_Tape_check
  refine kw_iconst (v := -1) C d_Tape_check_0 (by decide) ?_
  refine kw_leti (fun x1 => ?_)
  refine kw_istore_n (L' := [some (.ref t), some (.int a0), some (.int a1), some (.int x1), none]) C d_Tape_check_1 (by decide) rfl ?_
  refine kw_iload_n C d_Tape_check_2 rfl ?_
  refine kw_istore (L' := [some (.ref t), some (.int a0), some (.int a1), some (.int x1), some (.int a0)]) C d_Tape_check_3 (by decide) rfl ?_
  refine kw_wk (kw_l (α := Int32 × Int32) (pc := 5) (Lj := fun x3 => [some (.ref t), none, some (.int a1), some (.int x3.1), some (.int x3.2)]) (stj := fun x3 => []) (fun k2 hk2 x3 σ4 => ?_) n (x1, a0) σ) ⟨Or.inr rfl, Or.inl rfl, Or.inr rfl, Or.inr rfl, Or.inr rfl, trivial⟩
  refine kw_iload C d_Tape_check_5 rfl ?_
  refine kw_iload_n C d_Tape_check_7 rfl ?_
  refine kw_icmp_ge (tgt := 41) C d_Tape_check_8 (by decide) ?_ ?_
  · refine kw_iload_n C d_Tape_check_41 rfl ?_
    refine kw_iconst (v := -1) C d_Tape_check_42 (by decide) ?_
    refine kw_ixor C d_Tape_check_43 ?_
    exact kw_iret C Ce rfl (by simp) (fun _ _ => rfl) (Nat.le_of_ble_eq_true rfl) (Nat.le_of_ble_eq_true rfl) rfl d_Tape_check_44
  · refine kw_iload_n C d_Tape_check_11 rfl ?_
    refine kw_bipush (v := 8) C d_Tape_check_12 (by decide) ?_
    refine kw_iushr C d_Tape_check_14 ?_
    refine kw_aload_n C d_Tape_check_15 rfl ?_
    refine kw_getR C fi_Tape_18 rfl rfl ht d_Tape_check_16 (fun o5 ho5 => ?_)
    refine kw_iload_n C d_Tape_check_19 rfl ?_
    refine kw_aload_n C d_Tape_check_20 rfl ?_
    refine kw_getR C fi_Tape_10 rfl rfl ht d_Tape_check_21 (fun o6 ho6 => ?_)
    refine kw_iload C d_Tape_check_24 rfl ?_
    refine kw_iald C (Or.inl ⟨ho6.1, ho6.2.1⟩) d_Tape_check_26 ?_
    refine kw_ixor C d_Tape_check_27 ?_
    refine kw_sipush (v := 255) C d_Tape_check_28 (by decide) ?_
    refine kw_iand C d_Tape_check_31 ?_
    refine kw_leti (fun x7 => ?_)
    refine kw_iald C (Or.inl ⟨ho5.1, ho5.2.1⟩) d_Tape_check_32 ?_
    refine kw_ixor C d_Tape_check_33 ?_
    refine kw_leti (fun x8 => ?_)
    refine kw_istore_n (L' := [some (.ref t), none, some (.int a1), some (.int x8), some (.int x3.2)]) C d_Tape_check_34 (by decide) rfl ?_
    refine kw_iincL (L2 := fun x9 => [some (.ref t), none, some (.int a1), some (.int x8), some (.int x9)]) C d_Tape_check_35 (by decide) rfl (fun _ => rfl) (fun x9 => ?_)
    refine kw_goto (tgt := 5) C d_Tape_check_38 (by decide) ?_
    exact kw_wk (hk2 (x8, x9) σ4) ⟨Or.inr rfl, Or.inl rfl, Or.inr rfl, Or.inr rfl, Or.inr rfl, trivial⟩
