theorem mi_Md_428 : kw_mi "PictureFileModel" 428 y_Md_min prog_14_method_3_code 2 (some .int) 2 := ⟨(kw_m7 (i := 199) (by decide +kernel) (by decide +kernel)), w_Md_min, in_Md, by decide +kernel, by decide +kernel, by decide +kernel⟩
theorem s_Md_min : Cond.static y_Md_min ∈ kw_Ts := (kw_m7 (i := 200) (by decide +kernel) (by decide +kernel))
def y_Md_writePlain : MethodName := ⟨"PictureFileModel", "writePlain", "()V"⟩
theorem w_Md_writePlain : Cond.code y_Md_writePlain prog_14_method_87_code 4 none ∈ kw_Ts := (kw_m7 (i := 198) (by decide +kernel) (by decide +kernel))
theorem k_Md_408 : Cond.constantLong "PictureFileModel" 408 2303741511 ∈ kw_Ts := (kw_m7 (i := 149) (by decide +kernel) (by decide +kernel))
theorem k_Md_410 : Cond.constantLong "PictureFileModel" 410 218765834 ∈ kw_Ts := (kw_m7 (i := 158) (by decide +kernel) (by decide +kernel))
theorem mi_Md_419 : kw_mi "PictureFileModel" 419 y_Md_writeColours prog_14_method_86_code 2 none 0 := ⟨(kw_m7 (i := 167) (by decide +kernel) (by decide +kernel)), w_Md_writeColours, in_Md, by decide +kernel, by decide +kernel, by decide +kernel⟩
theorem v_Md_writeColours : Cond.instanceMethod y_Md_writeColours ∈ kw_Ts ∧ Cond.selects y_Md_writeColours.cls y_Md_writeColours y_Md_writeColours ∈ kw_Ts := ⟨(kw_m7 (i := 169) (by decide +kernel) (by decide +kernel)), (kw_sel (i := 91) (by decide +kernel) (by decide +kernel))⟩
theorem mi_Md_425 : kw_mi "PictureFileModel" 425 y_Md_writePlain prog_14_method_87_code 4 none 0 := ⟨(kw_m7 (i := 195) (by decide +kernel) (by decide +kernel)), w_Md_writePlain, in_Md, by decide +kernel, by decide +kernel, by decide +kernel⟩
theorem v_Md_writePlain : Cond.instanceMethod y_Md_writePlain ∈ kw_Ts ∧ Cond.selects y_Md_writePlain.cls y_Md_writePlain y_Md_writePlain ∈ kw_Ts := ⟨(kw_m7 (i := 197) (by decide +kernel) (by decide +kernel)), (kw_sel (i := 98) (by decide +kernel) (by decide +kernel))⟩
theorem mi_Md_422 : kw_mi "PictureFileModel" 422 y_Md_writeShort prog_14_method_92_code 6 none 0 := ⟨(kw_m7 (i := 171) (by decide +kernel) (by decide +kernel)), w_Md_writeShort, in_Md, by decide +kernel, by decide +kernel, by decide +kernel⟩
theorem v_Md_writeShort : Cond.instanceMethod y_Md_writeShort ∈ kw_Ts ∧ Cond.selects y_Md_writeShort.cls y_Md_writeShort y_Md_writeShort ∈ kw_Ts := ⟨(kw_m7 (i := 173) (by decide +kernel) (by decide +kernel)), (kw_sel (i := 92) (by decide +kernel) (by decide +kernel))⟩
def y_Md_write : MethodName := ⟨"PictureFileModel", "write", "(Z)I"⟩
theorem w_Md_write : Cond.code y_Md_write prog_14_method_85_code 6 (some .int) ∈ kw_Ts := (kw_m7 (i := 148) (by decide +kernel) (by decide +kernel))
/-! Md_writePlain -/
def rm_Md_writePlain : Room := { frames := 1, cells := 0, slots := 0, locals := 21 }
def F_Md_writePlain (n : Nat) (t : Nat) (σ : Mm) : Option (Mm) :=
kf_l (α := Int32) n (fun k1 x2 σ3 =>
if (gS σ3 (64 * t + 39)) ≤ x2 then (
some σ3) else (
kf_c2 (F_Md_min n 65535 ((gS σ3 (64 * t + 39)) - x2) σ3) fun x4 σ5 =>
kf_j (α := Int32) (fun x7 σ8 =>
Option.bind (F_Md_put n t x7 σ8) fun σ9 =>
Option.bind (F_Md_put n t x4 σ9) fun σ10 =>
Option.bind (F_Md_put n t (x4 >>> (8 &&& 31)) σ10) fun σ11 =>
Option.bind (F_Md_put n t (x4 ^^^ (-1)) σ11) fun σ12 =>
Option.bind (F_Md_put n t ((x4 ^^^ (-1)) >>> (8 &&& 31)) σ12) fun σ13 =>
kf_l (α := Int32) n (fun k14 x15 σ16 =>
if x4 ≤ x15 then (
kf_let (x2 + 65535 : Int32) fun x17 =>
k1 x17 σ16) else (
Option.bind (gR σ16 (64 * t + 30)) fun o18 =>
kf_let (x2 + x15 : Int32) fun x19 =>
kf_in x19 (mm_kd o18).2.2 <|
Option.bind (F_Md_put n t (gB σ16 o18 x19.toNatClampNeg) σ16) fun σ20 =>
kf_let (x15 + Int32.ofInt 1) fun x21 =>
k14 x21 σ20)) 0 σ13) fun k6 =>
if (x2 + x4) = (gS σ5 (64 * t + 39)) then (
k6 1 σ5) else (
k6 0 σ5))) 0 σ
theorem d_Md_writePlain_0 : decode prog_14_method_87_code 0 = .ok (.iconst 0, 1) := by decide +kernel
theorem d_Md_writePlain_1 : decode prog_14_method_87_code 1 = .ok (.istore_n 1, 1) := by decide +kernel
theorem d_Md_writePlain_2 : decode prog_14_method_87_code 2 = .ok (.iload_n 1, 1) := by decide +kernel
theorem d_Md_writePlain_3 : decode prog_14_method_87_code 3 = .ok (.aload_n 0, 1) := by decide +kernel
theorem d_Md_writePlain_4 : decode prog_14_method_87_code 4 = .ok (.getfield 100, 3) := by decide +kernel
theorem d_Md_writePlain_7 : decode prog_14_method_87_code 7 = .ok (.if_icmp .ge 99, 3) := by decide +kernel
theorem d_Md_writePlain_10 : decode prog_14_method_87_code 10 = .ok (.ldc_w 274, 3) := by decide +kernel
theorem d_Md_writePlain_13 : decode prog_14_method_87_code 13 = .ok (.aload_n 0, 1) := by decide +kernel
theorem d_Md_writePlain_14 : decode prog_14_method_87_code 14 = .ok (.getfield 100, 3) := by decide +kernel
theorem d_Md_writePlain_17 : decode prog_14_method_87_code 17 = .ok (.iload_n 1, 1) := by decide +kernel
theorem d_Md_writePlain_18 : decode prog_14_method_87_code 18 = .ok (.isub, 1) := by decide +kernel
theorem d_Md_writePlain_19 : decode prog_14_method_87_code 19 = .ok (.invokestatic 428, 3) := by decide +kernel
theorem d_Md_writePlain_22 : decode prog_14_method_87_code 22 = .ok (.istore_n 2, 1) := by decide +kernel
theorem d_Md_writePlain_23 : decode prog_14_method_87_code 23 = .ok (.aload_n 0, 1) := by decide +kernel
theorem d_Md_writePlain_24 : decode prog_14_method_87_code 24 = .ok (.iload_n 1, 1) := by decide +kernel
theorem d_Md_writePlain_25 : decode prog_14_method_87_code 25 = .ok (.iload_n 2, 1) := by decide +kernel
theorem d_Md_writePlain_26 : decode prog_14_method_87_code 26 = .ok (.iadd, 1) := by decide +kernel
theorem d_Md_writePlain_27 : decode prog_14_method_87_code 27 = .ok (.aload_n 0, 1) := by decide +kernel
theorem d_Md_writePlain_28 : decode prog_14_method_87_code 28 = .ok (.getfield 100, 3) := by decide +kernel
theorem d_Md_writePlain_31 : decode prog_14_method_87_code 31 = .ok (.if_icmp .ne 7, 3) := by decide +kernel
theorem d_Md_writePlain_34 : decode prog_14_method_87_code 34 = .ok (.iconst 1, 1) := by decide +kernel
theorem d_Md_writePlain_35 : decode prog_14_method_87_code 35 = .ok (.goto 4, 3) := by decide +kernel
theorem d_Md_writePlain_38 : decode prog_14_method_87_code 38 = .ok (.iconst 0, 1) := by decide +kernel
theorem d_Md_writePlain_39 : decode prog_14_method_87_code 39 = .ok (.invokevirtual 397, 3) := by decide +kernel
theorem d_Md_writePlain_42 : decode prog_14_method_87_code 42 = .ok (.aload_n 0, 1) := by decide +kernel
theorem d_Md_writePlain_43 : decode prog_14_method_87_code 43 = .ok (.iload_n 2, 1) := by decide +kernel
theorem d_Md_writePlain_44 : decode prog_14_method_87_code 44 = .ok (.invokevirtual 397, 3) := by decide +kernel
theorem d_Md_writePlain_47 : decode prog_14_method_87_code 47 = .ok (.aload_n 0, 1) := by decide +kernel
theorem d_Md_writePlain_48 : decode prog_14_method_87_code 48 = .ok (.iload_n 2, 1) := by decide +kernel
theorem d_Md_writePlain_49 : decode prog_14_method_87_code 49 = .ok (.bipush 8, 2) := by decide +kernel
theorem d_Md_writePlain_51 : decode prog_14_method_87_code 51 = .ok (.ishr, 1) := by decide +kernel
theorem d_Md_writePlain_52 : decode prog_14_method_87_code 52 = .ok (.invokevirtual 397, 3) := by decide +kernel
theorem d_Md_writePlain_55 : decode prog_14_method_87_code 55 = .ok (.aload_n 0, 1) := by decide +kernel
theorem d_Md_writePlain_56 : decode prog_14_method_87_code 56 = .ok (.iload_n 2, 1) := by decide +kernel
theorem d_Md_writePlain_57 : decode prog_14_method_87_code 57 = .ok (.iconst (-1), 1) := by decide +kernel
theorem d_Md_writePlain_58 : decode prog_14_method_87_code 58 = .ok (.ixor, 1) := by decide +kernel
theorem d_Md_writePlain_59 : decode prog_14_method_87_code 59 = .ok (.invokevirtual 397, 3) := by decide +kernel
theorem d_Md_writePlain_62 : decode prog_14_method_87_code 62 = .ok (.aload_n 0, 1) := by decide +kernel
theorem d_Md_writePlain_63 : decode prog_14_method_87_code 63 = .ok (.iload_n 2, 1) := by decide +kernel
theorem d_Md_writePlain_64 : decode prog_14_method_87_code 64 = .ok (.iconst (-1), 1) := by decide +kernel
theorem d_Md_writePlain_65 : decode prog_14_method_87_code 65 = .ok (.ixor, 1) := by decide +kernel
theorem d_Md_writePlain_66 : decode prog_14_method_87_code 66 = .ok (.bipush 8, 2) := by decide +kernel
theorem d_Md_writePlain_68 : decode prog_14_method_87_code 68 = .ok (.ishr, 1) := by decide +kernel
theorem d_Md_writePlain_69 : decode prog_14_method_87_code 69 = .ok (.invokevirtual 397, 3) := by decide +kernel
theorem d_Md_writePlain_72 : decode prog_14_method_87_code 72 = .ok (.iconst 0, 1) := by decide +kernel
theorem d_Md_writePlain_73 : decode prog_14_method_87_code 73 = .ok (.istore_n 3, 1) := by decide +kernel
theorem d_Md_writePlain_74 : decode prog_14_method_87_code 74 = .ok (.iload_n 3, 1) := by decide +kernel
theorem d_Md_writePlain_75 : decode prog_14_method_87_code 75 = .ok (.iload_n 2, 1) := by decide +kernel
theorem d_Md_writePlain_76 : decode prog_14_method_87_code 76 = .ok (.if_icmp .ge 21, 3) := by decide +kernel
theorem d_Md_writePlain_79 : decode prog_14_method_87_code 79 = .ok (.aload_n 0, 1) := by decide +kernel
theorem d_Md_writePlain_80 : decode prog_14_method_87_code 80 = .ok (.aload_n 0, 1) := by decide +kernel
theorem d_Md_writePlain_81 : decode prog_14_method_87_code 81 = .ok (.getfield 40, 3) := by decide +kernel
theorem d_Md_writePlain_84 : decode prog_14_method_87_code 84 = .ok (.iload_n 1, 1) := by decide +kernel
theorem d_Md_writePlain_85 : decode prog_14_method_87_code 85 = .ok (.iload_n 3, 1) := by decide +kernel
theorem d_Md_writePlain_86 : decode prog_14_method_87_code 86 = .ok (.iadd, 1) := by decide +kernel
theorem d_Md_writePlain_87 : decode prog_14_method_87_code 87 = .ok (.baload, 1) := by decide +kernel
theorem d_Md_writePlain_88 : decode prog_14_method_87_code 88 = .ok (.invokevirtual 397, 3) := by decide +kernel
theorem d_Md_writePlain_91 : decode prog_14_method_87_code 91 = .ok (.iinc 3 1, 3) := by decide +kernel
theorem d_Md_writePlain_94 : decode prog_14_method_87_code 94 = .ok (.goto (-20), 3) := by decide +kernel
theorem d_Md_writePlain_97 : decode prog_14_method_87_code 97 = .ok (.iload_n 1, 1) := by decide +kernel
theorem d_Md_writePlain_98 : decode prog_14_method_87_code 98 = .ok (.ldc_w 274, 3) := by decide +kernel
theorem d_Md_writePlain_101 : decode prog_14_method_87_code 101 = .ok (.iadd, 1) := by decide +kernel
theorem d_Md_writePlain_102 : decode prog_14_method_87_code 102 = .ok (.istore_n 1, 1) := by decide +kernel
theorem d_Md_writePlain_103 : decode prog_14_method_87_code 103 = .ok (.goto (-101), 3) := by decide +kernel
theorem d_Md_writePlain_106 : decode prog_14_method_87_code 106 = .ok (.return_, 1) := by decide +kernel
set_option maxRecDepth 100000 in
set_option maxHeartbeats 4000000 in
theorem c_Md_writePlain {l0 : Launch} (hl : l0.stackTraces = false) (n : Nat) (ids : List Nat) {t : Nat} (ht : mm_ok ids t 1 12)  (σ : Mm) : kw_C l0 y_Md_writePlain (Cond.code y_Md_writePlain prog_14_method_87_code 4 none :: kw_Ts) rm_Md_writePlain kw_ov ids [] [.ref t] σ (F_Md_writePlain n t σ) := by
  refine kw_start (L0 := [some (.ref t), none, none, none]) hl (by decide +kernel) (Nat.le_of_ble_eq_true rfl) rfl (fun Γ ad C Ce => ?_)
  unfold F_Md_writePlain
  refine kw_iconst (v := 0) C d_Md_writePlain_0 (by decide) ?_
  refine kw_istore_n (L' := [some (.ref t), some (.int 0), none, none]) C d_Md_writePlain_1 (by decide) rfl ?_
  refine kw_wk (kw_l (α := Int32) (pc := 2) (Lj := fun x2 => [some (.ref t), some (.int x2), none, none]) (stj := fun x2 => []) (fun k1 hk1 x2 σ3 => ?_) n 0 σ) ⟨Or.inr rfl, Or.inr rfl, Or.inl rfl, Or.inl rfl, trivial⟩
  refine kw_iload_n C d_Md_writePlain_2 rfl ?_
  refine kw_aload_n C d_Md_writePlain_3 rfl ?_
  refine kw_getI C fi_Md_100 (Or.inl rfl) ht d_Md_writePlain_4 ?_
  refine kw_icmp_ge (tgt := 106) C d_Md_writePlain_7 (by decide) ?_ ?_
  · exact kw_vret C Ce rfl (by simp) (fun _ _ => rfl) (Nat.le_of_ble_eq_true rfl) (Nat.le_of_ble_eq_true rfl) rfl d_Md_writePlain_106
  · refine kw_ldc_w (v := 65535) C d_Md_writePlain_10 k_Md_274 ?_
    refine kw_aload_n C d_Md_writePlain_13 rfl ?_
    refine kw_getI C fi_Md_100 (Or.inl rfl) ht d_Md_writePlain_14 ?_
    refine kw_iload_n C d_Md_writePlain_17 rfl ?_
    refine kw_isub C d_Md_writePlain_18 ?_
    refine kw_callSi (cl' := 0) (sl' := 0) (As := [.int 65535, .int ((gS σ3 (64 * t + 39)) - x2)]) C (c_Md_min hl n ids  65535 ((gS σ3 (64 * t + 39)) - x2) σ3) mi_Md_428 s_Md_min ⟨Nat.le_of_ble_eq_true rfl, Nat.le_of_ble_eq_true rfl⟩ (Nat.le_of_ble_eq_true rfl) ⟨Nat.le_of_ble_eq_true rfl, Nat.le_of_ble_eq_true rfl⟩ ⟨rfl, rfl⟩ rfl d_Md_writePlain_19 (fun x4 σ5 => ?_)
    refine kw_istore_n (L' := [some (.ref t), some (.int x2), some (.int x4), none]) C d_Md_writePlain_22 (by decide) rfl ?_
    refine kw_aload_n C d_Md_writePlain_23 rfl ?_
    refine kw_iload_n C d_Md_writePlain_24 rfl ?_
    refine kw_iload_n C d_Md_writePlain_25 rfl ?_
    refine kw_iadd C d_Md_writePlain_26 ?_
    refine kw_aload_n C d_Md_writePlain_27 rfl ?_
    refine kw_getI C fi_Md_100 (Or.inl rfl) ht d_Md_writePlain_28 ?_
    refine kw_j (α := Int32) (pcj := 39) (Lj := fun x7 => [some (.ref t), some (.int x2), some (.int x4), none]) (stj := fun x7 => [.int x7, .ref t]) (fun x7 σ8 => ?_) (fun k6 hk6 => ?_)
    · refine kw_callVv (cl' := 0) (sl' := 0) (As := [.int x7]) C (c_Md_put hl n ids ht x7 σ8) mi_Md_397 v_Md_put ⟨_, _, rfl⟩ ht ⟨Nat.le_of_ble_eq_true rfl, Nat.le_of_ble_eq_true rfl⟩ (Nat.le_of_ble_eq_true rfl) ⟨Nat.le_of_ble_eq_true rfl, Nat.le_of_ble_eq_true rfl⟩ ⟨rfl, rfl⟩ rfl d_Md_writePlain_39 (fun σ9 => ?_)
      refine kw_aload_n C d_Md_writePlain_42 rfl ?_
      refine kw_iload_n C d_Md_writePlain_43 rfl ?_
      refine kw_callVv (cl' := 0) (sl' := 0) (As := [.int x4]) C (c_Md_put hl n ids ht x4 σ9) mi_Md_397 v_Md_put ⟨_, _, rfl⟩ ht ⟨Nat.le_of_ble_eq_true rfl, Nat.le_of_ble_eq_true rfl⟩ (Nat.le_of_ble_eq_true rfl) ⟨Nat.le_of_ble_eq_true rfl, Nat.le_of_ble_eq_true rfl⟩ ⟨rfl, rfl⟩ rfl d_Md_writePlain_44 (fun σ10 => ?_)
      refine kw_aload_n C d_Md_writePlain_47 rfl ?_
      refine kw_iload_n C d_Md_writePlain_48 rfl ?_
      refine kw_bipush (v := 8) C d_Md_writePlain_49 (by decide) ?_
      refine kw_ishr C d_Md_writePlain_51 ?_
      refine kw_callVv (cl' := 0) (sl' := 0) (As := [.int (x4 >>> (8 &&& 31))]) C (c_Md_put hl n ids ht (x4 >>> (8 &&& 31)) σ10) mi_Md_397 v_Md_put ⟨_, _, rfl⟩ ht ⟨Nat.le_of_ble_eq_true rfl, Nat.le_of_ble_eq_true rfl⟩ (Nat.le_of_ble_eq_true rfl) ⟨Nat.le_of_ble_eq_true rfl, Nat.le_of_ble_eq_true rfl⟩ ⟨rfl, rfl⟩ rfl d_Md_writePlain_52 (fun σ11 => ?_)
      refine kw_aload_n C d_Md_writePlain_55 rfl ?_
      refine kw_iload_n C d_Md_writePlain_56 rfl ?_
      refine kw_iconst (v := -1) C d_Md_writePlain_57 (by decide) ?_
      refine kw_ixor C d_Md_writePlain_58 ?_
      refine kw_callVv (cl' := 0) (sl' := 0) (As := [.int (x4 ^^^ (-1))]) C (c_Md_put hl n ids ht (x4 ^^^ (-1)) σ11) mi_Md_397 v_Md_put ⟨_, _, rfl⟩ ht ⟨Nat.le_of_ble_eq_true rfl, Nat.le_of_ble_eq_true rfl⟩ (Nat.le_of_ble_eq_true rfl) ⟨Nat.le_of_ble_eq_true rfl, Nat.le_of_ble_eq_true rfl⟩ ⟨rfl, rfl⟩ rfl d_Md_writePlain_59 (fun σ12 => ?_)
      refine kw_aload_n C d_Md_writePlain_62 rfl ?_
      refine kw_iload_n C d_Md_writePlain_63 rfl ?_
      refine kw_iconst (v := -1) C d_Md_writePlain_64 (by decide) ?_
      refine kw_ixor C d_Md_writePlain_65 ?_
      refine kw_bipush (v := 8) C d_Md_writePlain_66 (by decide) ?_
      refine kw_ishr C d_Md_writePlain_68 ?_
      refine kw_callVv (cl' := 0) (sl' := 0) (As := [.int ((x4 ^^^ (-1)) >>> (8 &&& 31))]) C (c_Md_put hl n ids ht ((x4 ^^^ (-1)) >>> (8 &&& 31)) σ12) mi_Md_397 v_Md_put ⟨_, _, rfl⟩ ht ⟨Nat.le_of_ble_eq_true rfl, Nat.le_of_ble_eq_true rfl⟩ (Nat.le_of_ble_eq_true rfl) ⟨Nat.le_of_ble_eq_true rfl, Nat.le_of_ble_eq_true rfl⟩ ⟨rfl, rfl⟩ rfl d_Md_writePlain_69 (fun σ13 => ?_)
      refine kw_iconst (v := 0) C d_Md_writePlain_72 (by decide) ?_
      refine kw_istore_n (L' := [some (.ref t), some (.int x2), some (.int x4), some (.int 0)]) C d_Md_writePlain_73 (by decide) rfl ?_
      refine kw_wk (kw_l (α := Int32) (pc := 74) (Lj := fun x15 => [some (.ref t), some (.int x2), some (.int x4), some (.int x15)]) (stj := fun x15 => []) (fun k14 hk14 x15 σ16 => ?_) n 0 σ13) ⟨Or.inr rfl, Or.inr rfl, Or.inr rfl, Or.inr rfl, trivial⟩
      refine kw_iload_n C d_Md_writePlain_74 rfl ?_
      refine kw_iload_n C d_Md_writePlain_75 rfl ?_
      refine kw_icmp_ge (tgt := 97) C d_Md_writePlain_76 (by decide) ?_ ?_
      · refine kw_iload_n C d_Md_writePlain_97 rfl ?_
        refine kw_ldc_w (v := 65535) C d_Md_writePlain_98 k_Md_274 ?_
        refine kw_iadd C d_Md_writePlain_101 ?_
        refine kw_leti (fun x17 => ?_)
        refine kw_istore_n (L' := [some (.ref t), some (.int x17), some (.int x4), some (.int x15)]) C d_Md_writePlain_102 (by decide) rfl ?_
        refine kw_goto (tgt := 2) C d_Md_writePlain_103 (by decide) ?_
        exact kw_wk (hk1 x17 σ16) ⟨Or.inr rfl, Or.inr rfl, Or.inl rfl, Or.inl rfl, trivial⟩
      · refine kw_aload_n C d_Md_writePlain_79 rfl ?_
        refine kw_aload_n C d_Md_writePlain_80 rfl ?_
        refine kw_getR C fi_Md_40 rfl rfl ht d_Md_writePlain_81 (fun o18 ho18 => ?_)
        refine kw_iload_n C d_Md_writePlain_84 rfl ?_
        refine kw_iload_n C d_Md_writePlain_85 rfl ?_
        refine kw_iadd C d_Md_writePlain_86 ?_
        refine kw_leti (fun x19 => ?_)
        refine kw_bald C ho18 d_Md_writePlain_87 ?_
        refine kw_callVv (cl' := 0) (sl' := 0) (As := [.int (gB σ16 o18 x19.toNatClampNeg)]) C (c_Md_put hl n ids ht (gB σ16 o18 x19.toNatClampNeg) σ16) mi_Md_397 v_Md_put ⟨_, _, rfl⟩ ht ⟨Nat.le_of_ble_eq_true rfl, Nat.le_of_ble_eq_true rfl⟩ (Nat.le_of_ble_eq_true rfl) ⟨Nat.le_of_ble_eq_true rfl, Nat.le_of_ble_eq_true rfl⟩ ⟨rfl, rfl⟩ rfl d_Md_writePlain_88 (fun σ20 => ?_)
        refine kw_iincL (L2 := fun x21 => [some (.ref t), some (.int x2), some (.int x4), some (.int x21)]) C d_Md_writePlain_91 (by decide) rfl (fun _ => rfl) (fun x21 => ?_)
        refine kw_goto (tgt := 74) C d_Md_writePlain_94 (by decide) ?_
        exact kw_wk (hk14 x21 σ20) ⟨Or.inr rfl, Or.inr rfl, Or.inr rfl, Or.inr rfl, trivial⟩
    · refine kw_icmp_ne (tgt := 38) C d_Md_writePlain_31 (by decide) ?_ ?_
      · refine kw_iconst (v := 0) C d_Md_writePlain_38 (by decide) ?_
        exact kw_wk (hk6 0 σ5) ⟨Or.inr rfl, Or.inr rfl, Or.inr rfl, Or.inl rfl, trivial⟩
      · refine kw_iconst (v := 1) C d_Md_writePlain_34 (by decide) ?_
        refine kw_goto (tgt := 39) C d_Md_writePlain_35 (by decide) ?_
        exact kw_wk (hk6 1 σ5) ⟨Or.inr rfl, Or.inr rfl, Or.inr rfl, Or.inl rfl, trivial⟩
/-! Md_write -/
def rm_Md_write : Room := { frames := 6, cells := 0, slots := 0, locals := 135 }
def F_Md_write (n : Nat) (t : Nat) (a0 : Int32) (σ : Mm) : Option (Int32 × Mm) :=
kf_j (α := Int32) (fun x2 σ3 =>
kf_let (pS σ3 (64 * t + 0) x2) fun σ4 =>
if (gS σ4 (64 * t + 0)) ≤ 0 then (
Option.bind (F_Md_lay n t σ4) fun σ5 =>
kf_let ((gS σ5 (64 * t + 38)) - 1 : Int32) fun x6 =>
kf_l (α := Int32) n (fun k7 x8 σ9 =>
if x8 < 0 then (
kf_let (pS σ9 (64 * t + 2) 0) fun σ10 =>
Option.bind (F_Md_putLong n t 2303741511 σ10) fun σ11 =>
Option.bind (F_Md_putLong n t 218765834 σ11) fun σ12 =>
Option.bind (F_Md_beginPiece n t 73 72 68 82 σ12) fun σ13 =>
Option.bind (F_Md_putLong n t ((gS σ13 (64 * t + 6)).toInt64) σ13) fun σ14 =>
Option.bind (F_Md_putLong n t ((gS σ14 (64 * t + 7)).toInt64) σ14) fun σ15 =>
Option.bind (F_Md_put n t (gS σ15 (64 * t + 9)) σ15) fun σ16 =>
Option.bind (F_Md_put n t (gS σ16 (64 * t + 8)) σ16) fun σ17 =>
Option.bind (F_Md_put n t 0 σ17) fun σ18 =>
Option.bind (F_Md_put n t 0 σ18) fun σ19 =>
kf_j (α := Int32) (fun x21 σ22 =>
Option.bind (F_Md_put n t x21 σ22) fun σ23 =>
Option.bind (F_Md_endPiece n t σ23) fun σ24 =>
Option.bind (F_Md_writeColours n t σ24) fun σ25 =>
Option.bind (F_Md_beginPiece n t 73 68 65 84 σ25) fun σ26 =>
Option.bind (F_Md_put n t 120 σ26) fun σ27 =>
Option.bind (F_Md_put n t 1 σ27) fun σ28 =>
kf_j (α := Unit) (fun x30 σ31 =>
kf_c2 (F_Md_sumOf n t (gS σ31 (64 * t + 39)) σ31) fun x32 σ33 =>
Option.bind (F_Md_putLong n t x32 σ33) fun σ34 =>
Option.bind (F_Md_endPiece n t σ34) fun σ35 =>
Option.bind (F_Md_beginPiece n t 73 69 78 68 σ35) fun σ36 =>
Option.bind (F_Md_endPiece n t σ36) fun σ37 =>
some (gS σ37 (64 * t + 2), σ37)) fun k29 =>
if a0 = 0 then (
Option.bind (F_Md_writePlain n t σ28) fun σ38 =>
k29 () σ38) else (
Option.bind (F_Md_writeShort n t σ28) fun σ39 =>
k29 () σ39)) fun k20 =>
if (gS σ19 (64 * t + 10)) = 0 then (
k20 0 σ19) else (
k20 1 σ19)) else (
kf_c2 (F_Md_bestFilter n t x8 σ9) fun x40 σ41 =>
Option.bind (gR σ41 (64 * t + 30)) fun o42 =>
Option.bind (gR σ41 (64 * t + 35)) fun o43 =>
kf_in x8 (mm_kd o43).2.2 <|
kf_in (gB σ41 o43 x8.toNatClampNeg) (mm_kd o42).2.2 <| kf_let (pB σ41 o42 (gB σ41 o43 x8.toNatClampNeg).toNatClampNeg (vp_nar .byte x40.toInt8.toInt32)) fun σ44 =>
Option.bind (gR σ44 (64 * t + 36)) fun o45 =>
kf_in x8 (mm_kd o45).2.2 <|
kf_let ((gB σ44 o45 x8.toNatClampNeg) - 1 : Int32) fun x46 =>
kf_l (α := Int32) n (fun k47 x48 σ49 =>
if x48 < 0 then (
kf_let (x8 + Int32.ofInt (-1)) fun x50 =>
k7 x50 σ49) else (
Option.bind (gR σ49 (64 * t + 35)) fun o51 =>
kf_in x8 (mm_kd o51).2.2 <|
kf_let (((gB σ49 o51 x8.toNatClampNeg) + 1) + x48 : Int32) fun x52 =>
Option.bind (gR σ49 (64 * t + 30)) fun o53 =>
Option.bind (gR σ49 (64 * t + 30)) fun o54 =>
kf_in x52 (mm_kd o54).2.2 <|
kf_c2 (F_Md_guess n t x40 x8 x48 σ49) fun x55 σ56 =>
kf_in x52 (mm_kd o53).2.2 <| kf_let (pB σ56 o53 x52.toNatClampNeg (vp_nar .byte (((gB σ49 o54 x52.toNatClampNeg) - x55).toInt8.toInt32))) fun σ57 =>
kf_let (x48 + Int32.ofInt (-1)) fun x58 =>
k47 x58 σ57)) x46 σ44)) x6 σ5) else (
some (0, σ4))) fun k1 =>
if (gS σ (64 * t + 5)) = 0 then (
k1 1 σ) else (
k1 0 σ)
theorem d_Md_write_0 : decode prog_14_method_85_code 0 = .ok (.aload_n 0, 1) := by decide +kernel
theorem d_Md_write_1 : decode prog_14_method_85_code 1 = .ok (.aload_n 0, 1) := by decide +kernel
theorem d_Md_write_2 : decode prog_14_method_85_code 2 = .ok (.getfield 354, 3) := by decide +kernel
theorem d_Md_write_5 : decode prog_14_method_85_code 5 = .ok (.ifCond .eq 7, 3) := by decide +kernel
theorem d_Md_write_8 : decode prog_14_method_85_code 8 = .ok (.iconst 0, 1) := by decide +kernel
theorem d_Md_write_9 : decode prog_14_method_85_code 9 = .ok (.goto 4, 3) := by decide +kernel
theorem d_Md_write_12 : decode prog_14_method_85_code 12 = .ok (.iconst 1, 1) := by decide +kernel
theorem d_Md_write_13 : decode prog_14_method_85_code 13 = .ok (.putfield 67, 3) := by decide +kernel
theorem d_Md_write_16 : decode prog_14_method_85_code 16 = .ok (.aload_n 0, 1) := by decide +kernel
theorem d_Md_write_17 : decode prog_14_method_85_code 17 = .ok (.getfield 67, 3) := by decide +kernel
theorem d_Md_write_20 : decode prog_14_method_85_code 20 = .ok (.ifCond .le 5, 3) := by decide +kernel
theorem d_Md_write_23 : decode prog_14_method_85_code 23 = .ok (.iconst 0, 1) := by decide +kernel
theorem d_Md_write_24 : decode prog_14_method_85_code 24 = .ok (.ireturn, 1) := by decide +kernel
theorem d_Md_write_25 : decode prog_14_method_85_code 25 = .ok (.aload_n 0, 1) := by decide +kernel
theorem d_Md_write_26 : decode prog_14_method_85_code 26 = .ok (.invokevirtual 391, 3) := by decide +kernel
theorem d_Md_write_29 : decode prog_14_method_85_code 29 = .ok (.aload_n 0, 1) := by decide +kernel
theorem d_Md_write_30 : decode prog_14_method_85_code 30 = .ok (.getfield 97, 3) := by decide +kernel
theorem d_Md_write_33 : decode prog_14_method_85_code 33 = .ok (.iconst 1, 1) := by decide +kernel
theorem d_Md_write_34 : decode prog_14_method_85_code 34 = .ok (.isub, 1) := by decide +kernel
theorem d_Md_write_35 : decode prog_14_method_85_code 35 = .ok (.istore_n 2, 1) := by decide +kernel
theorem d_Md_write_36 : decode prog_14_method_85_code 36 = .ok (.iload_n 2, 1) := by decide +kernel
theorem d_Md_write_37 : decode prog_14_method_85_code 37 = .ok (.ifCond .lt 86, 3) := by decide +kernel
theorem d_Md_write_40 : decode prog_14_method_85_code 40 = .ok (.aload_n 0, 1) := by decide +kernel
theorem d_Md_write_41 : decode prog_14_method_85_code 41 = .ok (.iload_n 2, 1) := by decide +kernel
theorem d_Md_write_42 : decode prog_14_method_85_code 42 = .ok (.invokevirtual 394, 3) := by decide +kernel
theorem d_Md_write_45 : decode prog_14_method_85_code 45 = .ok (.istore_n 3, 1) := by decide +kernel
theorem d_Md_write_46 : decode prog_14_method_85_code 46 = .ok (.aload_n 0, 1) := by decide +kernel
theorem d_Md_write_47 : decode prog_14_method_85_code 47 = .ok (.getfield 40, 3) := by decide +kernel
theorem d_Md_write_50 : decode prog_14_method_85_code 50 = .ok (.aload_n 0, 1) := by decide +kernel
theorem d_Md_write_51 : decode prog_14_method_85_code 51 = .ok (.getfield 49, 3) := by decide +kernel
theorem d_Md_write_54 : decode prog_14_method_85_code 54 = .ok (.iload_n 2, 1) := by decide +kernel
theorem d_Md_write_55 : decode prog_14_method_85_code 55 = .ok (.iaload, 1) := by decide +kernel
theorem d_Md_write_56 : decode prog_14_method_85_code 56 = .ok (.iload_n 3, 1) := by decide +kernel
theorem d_Md_write_57 : decode prog_14_method_85_code 57 = .ok (.i2b, 1) := by decide +kernel
theorem d_Md_write_58 : decode prog_14_method_85_code 58 = .ok (.bastore, 1) := by decide +kernel
theorem d_Md_write_59 : decode prog_14_method_85_code 59 = .ok (.aload_n 0, 1) := by decide +kernel
theorem d_Md_write_60 : decode prog_14_method_85_code 60 = .ok (.getfield 52, 3) := by decide +kernel
theorem d_Md_write_63 : decode prog_14_method_85_code 63 = .ok (.iload_n 2, 1) := by decide +kernel
theorem d_Md_write_64 : decode prog_14_method_85_code 64 = .ok (.iaload, 1) := by decide +kernel
theorem d_Md_write_65 : decode prog_14_method_85_code 65 = .ok (.iconst 1, 1) := by decide +kernel
theorem d_Md_write_66 : decode prog_14_method_85_code 66 = .ok (.isub, 1) := by decide +kernel
theorem d_Md_write_67 : decode prog_14_method_85_code 67 = .ok (.istore 4, 2) := by decide +kernel
theorem d_Md_write_69 : decode prog_14_method_85_code 69 = .ok (.iload 4, 2) := by decide +kernel
theorem d_Md_write_71 : decode prog_14_method_85_code 71 = .ok (.ifCond .lt 46, 3) := by decide +kernel
theorem d_Md_write_74 : decode prog_14_method_85_code 74 = .ok (.aload_n 0, 1) := by decide +kernel
theorem d_Md_write_75 : decode prog_14_method_85_code 75 = .ok (.getfield 49, 3) := by decide +kernel
theorem d_Md_write_78 : decode prog_14_method_85_code 78 = .ok (.iload_n 2, 1) := by decide +kernel
theorem d_Md_write_79 : decode prog_14_method_85_code 79 = .ok (.iaload, 1) := by decide +kernel
theorem d_Md_write_80 : decode prog_14_method_85_code 80 = .ok (.iconst 1, 1) := by decide +kernel
theorem d_Md_write_81 : decode prog_14_method_85_code 81 = .ok (.iadd, 1) := by decide +kernel
theorem d_Md_write_82 : decode prog_14_method_85_code 82 = .ok (.iload 4, 2) := by decide +kernel
theorem d_Md_write_84 : decode prog_14_method_85_code 84 = .ok (.iadd, 1) := by decide +kernel
theorem d_Md_write_85 : decode prog_14_method_85_code 85 = .ok (.istore 5, 2) := by decide +kernel
theorem d_Md_write_87 : decode prog_14_method_85_code 87 = .ok (.aload_n 0, 1) := by decide +kernel
theorem d_Md_write_88 : decode prog_14_method_85_code 88 = .ok (.getfield 40, 3) := by decide +kernel
theorem d_Md_write_91 : decode prog_14_method_85_code 91 = .ok (.iload 5, 2) := by decide +kernel
theorem d_Md_write_93 : decode prog_14_method_85_code 93 = .ok (.aload_n 0, 1) := by decide +kernel
theorem d_Md_write_94 : decode prog_14_method_85_code 94 = .ok (.getfield 40, 3) := by decide +kernel
theorem d_Md_write_97 : decode prog_14_method_85_code 97 = .ok (.iload 5, 2) := by decide +kernel
theorem d_Md_write_99 : decode prog_14_method_85_code 99 = .ok (.baload, 1) := by decide +kernel
theorem d_Md_write_100 : decode prog_14_method_85_code 100 = .ok (.aload_n 0, 1) := by decide +kernel
theorem d_Md_write_101 : decode prog_14_method_85_code 101 = .ok (.iload_n 3, 1) := by decide +kernel
theorem d_Md_write_102 : decode prog_14_method_85_code 102 = .ok (.iload_n 2, 1) := by decide +kernel
theorem d_Md_write_103 : decode prog_14_method_85_code 103 = .ok (.iload 4, 2) := by decide +kernel
theorem d_Md_write_105 : decode prog_14_method_85_code 105 = .ok (.invokevirtual 329, 3) := by decide +kernel
theorem d_Md_write_108 : decode prog_14_method_85_code 108 = .ok (.isub, 1) := by decide +kernel
theorem d_Md_write_109 : decode prog_14_method_85_code 109 = .ok (.i2b, 1) := by decide +kernel
theorem d_Md_write_110 : decode prog_14_method_85_code 110 = .ok (.bastore, 1) := by decide +kernel
theorem d_Md_write_111 : decode prog_14_method_85_code 111 = .ok (.iinc 4 (-1), 3) := by decide +kernel
theorem d_Md_write_114 : decode prog_14_method_85_code 114 = .ok (.goto (-45), 3) := by decide +kernel
theorem d_Md_write_117 : decode prog_14_method_85_code 117 = .ok (.iinc 2 (-1), 3) := by decide +kernel
theorem d_Md_write_120 : decode prog_14_method_85_code 120 = .ok (.goto (-84), 3) := by decide +kernel
theorem d_Md_write_123 : decode prog_14_method_85_code 123 = .ok (.aload_n 0, 1) := by decide +kernel
theorem d_Md_write_124 : decode prog_14_method_85_code 124 = .ok (.iconst 0, 1) := by decide +kernel
theorem d_Md_write_125 : decode prog_14_method_85_code 125 = .ok (.putfield 71, 3) := by decide +kernel
theorem d_Md_write_128 : decode prog_14_method_85_code 128 = .ok (.aload_n 0, 1) := by decide +kernel
theorem d_Md_write_129 : decode prog_14_method_85_code 129 = .ok (.ldc2_w 408, 3) := by decide +kernel
theorem d_Md_write_132 : decode prog_14_method_85_code 132 = .ok (.invokevirtual 404, 3) := by decide +kernel
theorem d_Md_write_135 : decode prog_14_method_85_code 135 = .ok (.aload_n 0, 1) := by decide +kernel
theorem d_Md_write_136 : decode prog_14_method_85_code 136 = .ok (.ldc2_w 410, 3) := by decide +kernel
theorem d_Md_write_139 : decode prog_14_method_85_code 139 = .ok (.invokevirtual 404, 3) := by decide +kernel
theorem d_Md_write_142 : decode prog_14_method_85_code 142 = .ok (.aload_n 0, 1) := by decide +kernel
theorem d_Md_write_143 : decode prog_14_method_85_code 143 = .ok (.bipush 73, 2) := by decide +kernel
theorem d_Md_write_145 : decode prog_14_method_85_code 145 = .ok (.bipush 72, 2) := by decide +kernel
theorem d_Md_write_147 : decode prog_14_method_85_code 147 = .ok (.bipush 68, 2) := by decide +kernel
theorem d_Md_write_149 : decode prog_14_method_85_code 149 = .ok (.bipush 82, 2) := by decide +kernel
theorem d_Md_write_151 : decode prog_14_method_85_code 151 = .ok (.invokevirtual 412, 3) := by decide +kernel
theorem d_Md_write_154 : decode prog_14_method_85_code 154 = .ok (.aload_n 0, 1) := by decide +kernel
theorem d_Md_write_155 : decode prog_14_method_85_code 155 = .ok (.aload_n 0, 1) := by decide +kernel
theorem d_Md_write_156 : decode prog_14_method_85_code 156 = .ok (.getfield 357, 3) := by decide +kernel
theorem d_Md_write_159 : decode prog_14_method_85_code 159 = .ok (.i2l, 1) := by decide +kernel
theorem d_Md_write_160 : decode prog_14_method_85_code 160 = .ok (.invokevirtual 404, 3) := by decide +kernel
theorem d_Md_write_163 : decode prog_14_method_85_code 163 = .ok (.aload_n 0, 1) := by decide +kernel
theorem d_Md_write_164 : decode prog_14_method_85_code 164 = .ok (.aload_n 0, 1) := by decide +kernel
theorem d_Md_write_165 : decode prog_14_method_85_code 165 = .ok (.getfield 360, 3) := by decide +kernel
theorem d_Md_write_168 : decode prog_14_method_85_code 168 = .ok (.i2l, 1) := by decide +kernel
theorem d_Md_write_169 : decode prog_14_method_85_code 169 = .ok (.invokevirtual 404, 3) := by decide +kernel
theorem d_Md_write_172 : decode prog_14_method_85_code 172 = .ok (.aload_n 0, 1) := by decide +kernel
theorem d_Md_write_173 : decode prog_14_method_85_code 173 = .ok (.aload_n 0, 1) := by decide +kernel
theorem d_Md_write_174 : decode prog_14_method_85_code 174 = .ok (.getfield 366, 3) := by decide +kernel
theorem d_Md_write_177 : decode prog_14_method_85_code 177 = .ok (.invokevirtual 397, 3) := by decide +kernel
theorem d_Md_write_180 : decode prog_14_method_85_code 180 = .ok (.aload_n 0, 1) := by decide +kernel
theorem d_Md_write_181 : decode prog_14_method_85_code 181 = .ok (.aload_n 0, 1) := by decide +kernel
theorem d_Md_write_182 : decode prog_14_method_85_code 182 = .ok (.getfield 363, 3) := by decide +kernel
theorem d_Md_write_185 : decode prog_14_method_85_code 185 = .ok (.invokevirtual 397, 3) := by decide +kernel
theorem d_Md_write_188 : decode prog_14_method_85_code 188 = .ok (.aload_n 0, 1) := by decide +kernel
theorem d_Md_write_189 : decode prog_14_method_85_code 189 = .ok (.iconst 0, 1) := by decide +kernel
theorem d_Md_write_190 : decode prog_14_method_85_code 190 = .ok (.invokevirtual 397, 3) := by decide +kernel
theorem d_Md_write_193 : decode prog_14_method_85_code 193 = .ok (.aload_n 0, 1) := by decide +kernel
theorem d_Md_write_194 : decode prog_14_method_85_code 194 = .ok (.iconst 0, 1) := by decide +kernel
theorem d_Md_write_195 : decode prog_14_method_85_code 195 = .ok (.invokevirtual 397, 3) := by decide +kernel
theorem d_Md_write_198 : decode prog_14_method_85_code 198 = .ok (.aload_n 0, 1) := by decide +kernel
theorem d_Md_write_199 : decode prog_14_method_85_code 199 = .ok (.aload_n 0, 1) := by decide +kernel
theorem d_Md_write_200 : decode prog_14_method_85_code 200 = .ok (.getfield 369, 3) := by decide +kernel
theorem d_Md_write_203 : decode prog_14_method_85_code 203 = .ok (.ifCond .eq 7, 3) := by decide +kernel
theorem d_Md_write_206 : decode prog_14_method_85_code 206 = .ok (.iconst 1, 1) := by decide +kernel
theorem d_Md_write_207 : decode prog_14_method_85_code 207 = .ok (.goto 4, 3) := by decide +kernel
theorem d_Md_write_210 : decode prog_14_method_85_code 210 = .ok (.iconst 0, 1) := by decide +kernel
theorem d_Md_write_211 : decode prog_14_method_85_code 211 = .ok (.invokevirtual 397, 3) := by decide +kernel
theorem d_Md_write_214 : decode prog_14_method_85_code 214 = .ok (.aload_n 0, 1) := by decide +kernel
theorem d_Md_write_215 : decode prog_14_method_85_code 215 = .ok (.invokevirtual 416, 3) := by decide +kernel
theorem d_Md_write_218 : decode prog_14_method_85_code 218 = .ok (.aload_n 0, 1) := by decide +kernel
theorem d_Md_write_219 : decode prog_14_method_85_code 219 = .ok (.invokevirtual 419, 3) := by decide +kernel
theorem d_Md_write_222 : decode prog_14_method_85_code 222 = .ok (.aload_n 0, 1) := by decide +kernel
theorem d_Md_write_223 : decode prog_14_method_85_code 223 = .ok (.bipush 73, 2) := by decide +kernel
theorem d_Md_write_225 : decode prog_14_method_85_code 225 = .ok (.bipush 68, 2) := by decide +kernel
theorem d_Md_write_227 : decode prog_14_method_85_code 227 = .ok (.bipush 65, 2) := by decide +kernel
theorem d_Md_write_229 : decode prog_14_method_85_code 229 = .ok (.bipush 84, 2) := by decide +kernel
theorem d_Md_write_231 : decode prog_14_method_85_code 231 = .ok (.invokevirtual 412, 3) := by decide +kernel
theorem d_Md_write_234 : decode prog_14_method_85_code 234 = .ok (.aload_n 0, 1) := by decide +kernel
theorem d_Md_write_235 : decode prog_14_method_85_code 235 = .ok (.bipush 120, 2) := by decide +kernel
theorem d_Md_write_237 : decode prog_14_method_85_code 237 = .ok (.invokevirtual 397, 3) := by decide +kernel
theorem d_Md_write_240 : decode prog_14_method_85_code 240 = .ok (.aload_n 0, 1) := by decide +kernel
theorem d_Md_write_241 : decode prog_14_method_85_code 241 = .ok (.iconst 1, 1) := by decide +kernel
theorem d_Md_write_242 : decode prog_14_method_85_code 242 = .ok (.invokevirtual 397, 3) := by decide +kernel
theorem d_Md_write_245 : decode prog_14_method_85_code 245 = .ok (.iload_n 1, 1) := by decide +kernel
theorem d_Md_write_246 : decode prog_14_method_85_code 246 = .ok (.ifCond .eq 10, 3) := by decide +kernel
theorem d_Md_write_249 : decode prog_14_method_85_code 249 = .ok (.aload_n 0, 1) := by decide +kernel
theorem d_Md_write_250 : decode prog_14_method_85_code 250 = .ok (.invokevirtual 422, 3) := by decide +kernel
theorem d_Md_write_253 : decode prog_14_method_85_code 253 = .ok (.goto 7, 3) := by decide +kernel
theorem d_Md_write_256 : decode prog_14_method_85_code 256 = .ok (.aload_n 0, 1) := by decide +kernel
theorem d_Md_write_257 : decode prog_14_method_85_code 257 = .ok (.invokevirtual 425, 3) := by decide +kernel
theorem d_Md_write_260 : decode prog_14_method_85_code 260 = .ok (.aload_n 0, 1) := by decide +kernel
theorem d_Md_write_261 : decode prog_14_method_85_code 261 = .ok (.aload_n 0, 1) := by decide +kernel
theorem d_Md_write_262 : decode prog_14_method_85_code 262 = .ok (.aload_n 0, 1) := by decide +kernel
theorem d_Md_write_263 : decode prog_14_method_85_code 263 = .ok (.getfield 100, 3) := by decide +kernel
theorem d_Md_write_266 : decode prog_14_method_85_code 266 = .ok (.invokevirtual 267, 3) := by decide +kernel
theorem d_Md_write_269 : decode prog_14_method_85_code 269 = .ok (.invokevirtual 404, 3) := by decide +kernel
theorem d_Md_write_272 : decode prog_14_method_85_code 272 = .ok (.aload_n 0, 1) := by decide +kernel
theorem d_Md_write_273 : decode prog_14_method_85_code 273 = .ok (.invokevirtual 416, 3) := by decide +kernel
theorem d_Md_write_276 : decode prog_14_method_85_code 276 = .ok (.aload_n 0, 1) := by decide +kernel
theorem d_Md_write_277 : decode prog_14_method_85_code 277 = .ok (.bipush 73, 2) := by decide +kernel
theorem d_Md_write_279 : decode prog_14_method_85_code 279 = .ok (.bipush 69, 2) := by decide +kernel
theorem d_Md_write_281 : decode prog_14_method_85_code 281 = .ok (.bipush 78, 2) := by decide +kernel
theorem d_Md_write_283 : decode prog_14_method_85_code 283 = .ok (.bipush 68, 2) := by decide +kernel
theorem d_Md_write_285 : decode prog_14_method_85_code 285 = .ok (.invokevirtual 412, 3) := by decide +kernel
theorem d_Md_write_288 : decode prog_14_method_85_code 288 = .ok (.aload_n 0, 1) := by decide +kernel
theorem d_Md_write_289 : decode prog_14_method_85_code 289 = .ok (.invokevirtual 416, 3) := by decide +kernel
theorem d_Md_write_292 : decode prog_14_method_85_code 292 = .ok (.aload_n 0, 1) := by decide +kernel
theorem d_Md_write_293 : decode prog_14_method_85_code 293 = .ok (.getfield 71, 3) := by decide +kernel
theorem d_Md_write_296 : decode prog_14_method_85_code 296 = .ok (.ireturn, 1) := by decide +kernel
set_option maxRecDepth 100000 in
set_option maxHeartbeats 4000000 in
theorem c_Md_write {l0 : Launch} (hl : l0.stackTraces = false) (n : Nat) (ids : List Nat) {t : Nat} (ht : mm_ok ids t 1 12) (a0 : Int32) (σ : Mm) : kw_C l0 y_Md_write (Cond.code y_Md_write prog_14_method_85_code 6 (some .int) :: kw_Ts) rm_Md_write kw_oi ids [] [.ref t, .int a0] σ (F_Md_write n t a0 σ) := by
  refine kw_start (L0 := [some (.ref t), some (.int a0), none, none, none, none]) hl (by decide +kernel) (Nat.le_of_ble_eq_true rfl) rfl (fun Γ ad C Ce => ?_)
  unfold F_Md_write
  refine kw_aload_n C d_Md_write_0 rfl ?_
  refine kw_aload_n C d_Md_write_1 rfl ?_
  refine kw_getI C fi_Md_354 (Or.inr rfl) ht d_Md_write_2 ?_
  refine kw_j (α := Int32) (pcj := 13) (Lj := fun x2 => [some (.ref t), some (.int a0), none, none, none, none]) (stj := fun x2 => [.int x2, .ref t]) (fun x2 σ3 => ?_) (fun k1 hk1 => ?_)
  · refine kw_putI C fi_Md_67 rfl ht d_Md_write_13 (fun σ4 => ?_)
    refine kw_aload_n C d_Md_write_16 rfl ?_
    refine kw_getI C fi_Md_67 (Or.inl rfl) ht d_Md_write_17 ?_
    refine kw_if_le (tgt := 25) C d_Md_write_20 (by decide) ?_ ?_
    · refine kw_aload_n C d_Md_write_25 rfl ?_
      refine kw_callVv (cl' := 0) (sl' := 0) (As := []) C (c_Md_lay hl n ids ht  σ4) mi_Md_391 v_Md_lay ⟨_, _, rfl⟩ ht ⟨Nat.le_of_ble_eq_true rfl, Nat.le_of_ble_eq_true rfl⟩ (Nat.le_of_ble_eq_true rfl) ⟨Nat.le_of_ble_eq_true rfl, Nat.le_of_ble_eq_true rfl⟩ ⟨rfl, rfl⟩ rfl d_Md_write_26 (fun σ5 => ?_)
      refine kw_aload_n C d_Md_write_29 rfl ?_
      refine kw_getI C fi_Md_97 (Or.inl rfl) ht d_Md_write_30 ?_
      refine kw_iconst (v := 1) C d_Md_write_33 (by decide) ?_
      refine kw_isub C d_Md_write_34 ?_
      refine kw_leti (fun x6 => ?_)
      refine kw_istore_n (L' := [some (.ref t), some (.int a0), some (.int x6), none, none, none]) C d_Md_write_35 (by decide) rfl ?_
      refine kw_wk (kw_l (α := Int32) (pc := 36) (Lj := fun x8 => [some (.ref t), some (.int a0), some (.int x8), none, none, none]) (stj := fun x8 => []) (fun k7 hk7 x8 σ9 => ?_) n x6 σ5) ⟨Or.inr rfl, Or.inr rfl, Or.inr rfl, Or.inl rfl, Or.inl rfl, Or.inl rfl, trivial⟩
      refine kw_iload_n C d_Md_write_36 rfl ?_
      refine kw_if_lt (tgt := 123) C d_Md_write_37 (by decide) ?_ ?_
      · refine kw_aload_n C d_Md_write_123 rfl ?_
        refine kw_iconst (v := 0) C d_Md_write_124 (by decide) ?_
        refine kw_putI C fi_Md_71 rfl ht d_Md_write_125 (fun σ10 => ?_)
        refine kw_aload_n C d_Md_write_128 rfl ?_
        refine kw_ldc2 (v := 2303741511) C d_Md_write_129 k_Md_408 ?_
        refine kw_callVv (cl' := 0) (sl' := 0) (As := [.long 2303741511]) C (c_Md_putLong hl n ids ht 2303741511 σ10) mi_Md_404 v_Md_putLong ⟨_, _, rfl⟩ ht ⟨Nat.le_of_ble_eq_true rfl, Nat.le_of_ble_eq_true rfl⟩ (Nat.le_of_ble_eq_true rfl) ⟨Nat.le_of_ble_eq_true rfl, Nat.le_of_ble_eq_true rfl⟩ ⟨rfl, rfl⟩ rfl d_Md_write_132 (fun σ11 => ?_)
        refine kw_aload_n C d_Md_write_135 rfl ?_
        refine kw_ldc2 (v := 218765834) C d_Md_write_136 k_Md_410 ?_
        refine kw_callVv (cl' := 0) (sl' := 0) (As := [.long 218765834]) C (c_Md_putLong hl n ids ht 218765834 σ11) mi_Md_404 v_Md_putLong ⟨_, _, rfl⟩ ht ⟨Nat.le_of_ble_eq_true rfl, Nat.le_of_ble_eq_true rfl⟩ (Nat.le_of_ble_eq_true rfl) ⟨Nat.le_of_ble_eq_true rfl, Nat.le_of_ble_eq_true rfl⟩ ⟨rfl, rfl⟩ rfl d_Md_write_139 (fun σ12 => ?_)
        refine kw_aload_n C d_Md_write_142 rfl ?_
        refine kw_bipush (v := 73) C d_Md_write_143 (by decide) ?_
        refine kw_bipush (v := 72) C d_Md_write_145 (by decide) ?_
        refine kw_bipush (v := 68) C d_Md_write_147 (by decide) ?_
        refine kw_bipush (v := 82) C d_Md_write_149 (by decide) ?_
        refine kw_callVv (cl' := 0) (sl' := 0) (As := [.int 73, .int 72, .int 68, .int 82]) C (c_Md_beginPiece hl n ids ht 73 72 68 82 σ12) mi_Md_412 v_Md_beginPiece ⟨_, _, rfl⟩ ht ⟨Nat.le_of_ble_eq_true rfl, Nat.le_of_ble_eq_true rfl⟩ (Nat.le_of_ble_eq_true rfl) ⟨Nat.le_of_ble_eq_true rfl, Nat.le_of_ble_eq_true rfl⟩ ⟨rfl, rfl⟩ rfl d_Md_write_151 (fun σ13 => ?_)
        refine kw_aload_n C d_Md_write_154 rfl ?_
        refine kw_aload_n C d_Md_write_155 rfl ?_
        refine kw_getI C fi_Md_357 (Or.inl rfl) ht d_Md_write_156 ?_
        refine kw_i2l C d_Md_write_159 ?_
        refine kw_callVv (cl' := 0) (sl' := 0) (As := [.long ((gS σ13 (64 * t + 6)).toInt64)]) C (c_Md_putLong hl n ids ht ((gS σ13 (64 * t + 6)).toInt64) σ13) mi_Md_404 v_Md_putLong ⟨_, _, rfl⟩ ht ⟨Nat.le_of_ble_eq_true rfl, Nat.le_of_ble_eq_true rfl⟩ (Nat.le_of_ble_eq_true rfl) ⟨Nat.le_of_ble_eq_true rfl, Nat.le_of_ble_eq_true rfl⟩ ⟨rfl, rfl⟩ rfl d_Md_write_160 (fun σ14 => ?_)
        refine kw_aload_n C d_Md_write_163 rfl ?_
        refine kw_aload_n C d_Md_write_164 rfl ?_
        refine kw_getI C fi_Md_360 (Or.inl rfl) ht d_Md_write_165 ?_
        refine kw_i2l C d_Md_write_168 ?_
        refine kw_callVv (cl' := 0) (sl' := 0) (As := [.long ((gS σ14 (64 * t + 7)).toInt64)]) C (c_Md_putLong hl n ids ht ((gS σ14 (64 * t + 7)).toInt64) σ14) mi_Md_404 v_Md_putLong ⟨_, _, rfl⟩ ht ⟨Nat.le_of_ble_eq_true rfl, Nat.le_of_ble_eq_true rfl⟩ (Nat.le_of_ble_eq_true rfl) ⟨Nat.le_of_ble_eq_true rfl, Nat.le_of_ble_eq_true rfl⟩ ⟨rfl, rfl⟩ rfl d_Md_write_169 (fun σ15 => ?_)
        refine kw_aload_n C d_Md_write_172 rfl ?_
        refine kw_aload_n C d_Md_write_173 rfl ?_
        refine kw_getI C fi_Md_366 (Or.inl rfl) ht d_Md_write_174 ?_
        refine kw_callVv (cl' := 0) (sl' := 0) (As := [.int (gS σ15 (64 * t + 9))]) C (c_Md_put hl n ids ht (gS σ15 (64 * t + 9)) σ15) mi_Md_397 v_Md_put ⟨_, _, rfl⟩ ht ⟨Nat.le_of_ble_eq_true rfl, Nat.le_of_ble_eq_true rfl⟩ (Nat.le_of_ble_eq_true rfl) ⟨Nat.le_of_ble_eq_true rfl, Nat.le_of_ble_eq_true rfl⟩ ⟨rfl, rfl⟩ rfl d_Md_write_177 (fun σ16 => ?_)
        refine kw_aload_n C d_Md_write_180 rfl ?_
        refine kw_aload_n C d_Md_write_181 rfl ?_
        refine kw_getI C fi_Md_363 (Or.inl rfl) ht d_Md_write_182 ?_
        refine kw_callVv (cl' := 0) (sl' := 0) (As := [.int (gS σ16 (64 * t + 8))]) C (c_Md_put hl n ids ht (gS σ16 (64 * t + 8)) σ16) mi_Md_397 v_Md_put ⟨_, _, rfl⟩ ht ⟨Nat.le_of_ble_eq_true rfl, Nat.le_of_ble_eq_true rfl⟩ (Nat.le_of_ble_eq_true rfl) ⟨Nat.le_of_ble_eq_true rfl, Nat.le_of_ble_eq_true rfl⟩ ⟨rfl, rfl⟩ rfl d_Md_write_185 (fun σ17 => ?_)
        refine kw_aload_n C d_Md_write_188 rfl ?_
        refine kw_iconst (v := 0) C d_Md_write_189 (by decide) ?_
        refine kw_callVv (cl' := 0) (sl' := 0) (As := [.int 0]) C (c_Md_put hl n ids ht 0 σ17) mi_Md_397 v_Md_put ⟨_, _, rfl⟩ ht ⟨Nat.le_of_ble_eq_true rfl, Nat.le_of_ble_eq_true rfl⟩ (Nat.le_of_ble_eq_true rfl) ⟨Nat.le_of_ble_eq_true rfl, Nat.le_of_ble_eq_true rfl⟩ ⟨rfl, rfl⟩ rfl d_Md_write_190 (fun σ18 => ?_)
        refine kw_aload_n C d_Md_write_193 rfl ?_
        refine kw_iconst (v := 0) C d_Md_write_194 (by decide) ?_
        refine kw_callVv (cl' := 0) (sl' := 0) (As := [.int 0]) C (c_Md_put hl n ids ht 0 σ18) mi_Md_397 v_Md_put ⟨_, _, rfl⟩ ht ⟨Nat.le_of_ble_eq_true rfl, Nat.le_of_ble_eq_true rfl⟩ (Nat.le_of_ble_eq_true rfl) ⟨Nat.le_of_ble_eq_true rfl, Nat.le_of_ble_eq_true rfl⟩ ⟨rfl, rfl⟩ rfl d_Md_write_195 (fun σ19 => ?_)
        refine kw_aload_n C d_Md_write_198 rfl ?_
        refine kw_aload_n C d_Md_write_199 rfl ?_
        refine kw_getI C fi_Md_369 (Or.inr rfl) ht d_Md_write_200 ?_
        refine kw_j (α := Int32) (pcj := 211) (Lj := fun x21 => [some (.ref t), some (.int a0), none, none, none, none]) (stj := fun x21 => [.int x21, .ref t]) (fun x21 σ22 => ?_) (fun k20 hk20 => ?_)
        · refine kw_callVv (cl' := 0) (sl' := 0) (As := [.int x21]) C (c_Md_put hl n ids ht x21 σ22) mi_Md_397 v_Md_put ⟨_, _, rfl⟩ ht ⟨Nat.le_of_ble_eq_true rfl, Nat.le_of_ble_eq_true rfl⟩ (Nat.le_of_ble_eq_true rfl) ⟨Nat.le_of_ble_eq_true rfl, Nat.le_of_ble_eq_true rfl⟩ ⟨rfl, rfl⟩ rfl d_Md_write_211 (fun σ23 => ?_)
          refine kw_aload_n C d_Md_write_214 rfl ?_
          refine kw_callVv (cl' := 0) (sl' := 0) (As := []) C (c_Md_endPiece hl n ids ht  σ23) mi_Md_416 v_Md_endPiece ⟨_, _, rfl⟩ ht ⟨Nat.le_of_ble_eq_true rfl, Nat.le_of_ble_eq_true rfl⟩ (Nat.le_of_ble_eq_true rfl) ⟨Nat.le_of_ble_eq_true rfl, Nat.le_of_ble_eq_true rfl⟩ ⟨rfl, rfl⟩ rfl d_Md_write_215 (fun σ24 => ?_)
          refine kw_aload_n C d_Md_write_218 rfl ?_
          refine kw_callVv (cl' := 0) (sl' := 0) (As := []) C (c_Md_writeColours hl n ids ht  σ24) mi_Md_419 v_Md_writeColours ⟨_, _, rfl⟩ ht ⟨Nat.le_of_ble_eq_true rfl, Nat.le_of_ble_eq_true rfl⟩ (Nat.le_of_ble_eq_true rfl) ⟨Nat.le_of_ble_eq_true rfl, Nat.le_of_ble_eq_true rfl⟩ ⟨rfl, rfl⟩ rfl d_Md_write_219 (fun σ25 => ?_)
          refine kw_aload_n C d_Md_write_222 rfl ?_
          refine kw_bipush (v := 73) C d_Md_write_223 (by decide) ?_
          refine kw_bipush (v := 68) C d_Md_write_225 (by decide) ?_
          refine kw_bipush (v := 65) C d_Md_write_227 (by decide) ?_
          refine kw_bipush (v := 84) C d_Md_write_229 (by decide) ?_
          refine kw_callVv (cl' := 0) (sl' := 0) (As := [.int 73, .int 68, .int 65, .int 84]) C (c_Md_beginPiece hl n ids ht 73 68 65 84 σ25) mi_Md_412 v_Md_beginPiece ⟨_, _, rfl⟩ ht ⟨Nat.le_of_ble_eq_true rfl, Nat.le_of_ble_eq_true rfl⟩ (Nat.le_of_ble_eq_true rfl) ⟨Nat.le_of_ble_eq_true rfl, Nat.le_of_ble_eq_true rfl⟩ ⟨rfl, rfl⟩ rfl d_Md_write_231 (fun σ26 => ?_)
          refine kw_aload_n C d_Md_write_234 rfl ?_
          refine kw_bipush (v := 120) C d_Md_write_235 (by decide) ?_
          refine kw_callVv (cl' := 0) (sl' := 0) (As := [.int 120]) C (c_Md_put hl n ids ht 120 σ26) mi_Md_397 v_Md_put ⟨_, _, rfl⟩ ht ⟨Nat.le_of_ble_eq_true rfl, Nat.le_of_ble_eq_true rfl⟩ (Nat.le_of_ble_eq_true rfl) ⟨Nat.le_of_ble_eq_true rfl, Nat.le_of_ble_eq_true rfl⟩ ⟨rfl, rfl⟩ rfl d_Md_write_237 (fun σ27 => ?_)
          refine kw_aload_n C d_Md_write_240 rfl ?_
          refine kw_iconst (v := 1) C d_Md_write_241 (by decide) ?_
          refine kw_callVv (cl' := 0) (sl' := 0) (As := [.int 1]) C (c_Md_put hl n ids ht 1 σ27) mi_Md_397 v_Md_put ⟨_, _, rfl⟩ ht ⟨Nat.le_of_ble_eq_true rfl, Nat.le_of_ble_eq_true rfl⟩ (Nat.le_of_ble_eq_true rfl) ⟨Nat.le_of_ble_eq_true rfl, Nat.le_of_ble_eq_true rfl⟩ ⟨rfl, rfl⟩ rfl d_Md_write_242 (fun σ28 => ?_)
          refine kw_iload_n C d_Md_write_245 rfl ?_
          refine kw_j (α := Unit) (pcj := 260) (Lj := fun x30 => [some (.ref t), none, none, none, none, none]) (stj := fun x30 => []) (fun x30 σ31 => ?_) (fun k29 hk29 => ?_)
          · refine kw_aload_n C d_Md_write_260 rfl ?_
            refine kw_aload_n C d_Md_write_261 rfl ?_
            refine kw_aload_n C d_Md_write_262 rfl ?_
            refine kw_getI C fi_Md_100 (Or.inl rfl) ht d_Md_write_263 ?_
            refine kw_callVl (cl' := 0) (sl' := 0) (As := [.int (gS σ31 (64 * t + 39))]) C (c_Md_sumOf hl n ids ht (gS σ31 (64 * t + 39)) σ31) mi_Md_267 v_Md_sumOf ⟨_, _, rfl⟩ ht ⟨Nat.le_of_ble_eq_true rfl, Nat.le_of_ble_eq_true rfl⟩ (Nat.le_of_ble_eq_true rfl) ⟨Nat.le_of_ble_eq_true rfl, Nat.le_of_ble_eq_true rfl⟩ ⟨rfl, rfl⟩ rfl d_Md_write_266 (fun x32 σ33 => ?_)
            refine kw_callVv (cl' := 0) (sl' := 0) (As := [.long x32]) C (c_Md_putLong hl n ids ht x32 σ33) mi_Md_404 v_Md_putLong ⟨_, _, rfl⟩ ht ⟨Nat.le_of_ble_eq_true rfl, Nat.le_of_ble_eq_true rfl⟩ (Nat.le_of_ble_eq_true rfl) ⟨Nat.le_of_ble_eq_true rfl, Nat.le_of_ble_eq_true rfl⟩ ⟨rfl, rfl⟩ rfl d_Md_write_269 (fun σ34 => ?_)
            refine kw_aload_n C d_Md_write_272 rfl ?_
            refine kw_callVv (cl' := 0) (sl' := 0) (As := []) C (c_Md_endPiece hl n ids ht  σ34) mi_Md_416 v_Md_endPiece ⟨_, _, rfl⟩ ht ⟨Nat.le_of_ble_eq_true rfl, Nat.le_of_ble_eq_true rfl⟩ (Nat.le_of_ble_eq_true rfl) ⟨Nat.le_of_ble_eq_true rfl, Nat.le_of_ble_eq_true rfl⟩ ⟨rfl, rfl⟩ rfl d_Md_write_273 (fun σ35 => ?_)
            refine kw_aload_n C d_Md_write_276 rfl ?_
            refine kw_bipush (v := 73) C d_Md_write_277 (by decide) ?_
            refine kw_bipush (v := 69) C d_Md_write_279 (by decide) ?_
            refine kw_bipush (v := 78) C d_Md_write_281 (by decide) ?_
            refine kw_bipush (v := 68) C d_Md_write_283 (by decide) ?_
            refine kw_callVv (cl' := 0) (sl' := 0) (As := [.int 73, .int 69, .int 78, .int 68]) C (c_Md_beginPiece hl n ids ht 73 69 78 68 σ35) mi_Md_412 v_Md_beginPiece ⟨_, _, rfl⟩ ht ⟨Nat.le_of_ble_eq_true rfl, Nat.le_of_ble_eq_true rfl⟩ (Nat.le_of_ble_eq_true rfl) ⟨Nat.le_of_ble_eq_true rfl, Nat.le_of_ble_eq_true rfl⟩ ⟨rfl, rfl⟩ rfl d_Md_write_285 (fun σ36 => ?_)
            refine kw_aload_n C d_Md_write_288 rfl ?_
            refine kw_callVv (cl' := 0) (sl' := 0) (As := []) C (c_Md_endPiece hl n ids ht  σ36) mi_Md_416 v_Md_endPiece ⟨_, _, rfl⟩ ht ⟨Nat.le_of_ble_eq_true rfl, Nat.le_of_ble_eq_true rfl⟩ (Nat.le_of_ble_eq_true rfl) ⟨Nat.le_of_ble_eq_true rfl, Nat.le_of_ble_eq_true rfl⟩ ⟨rfl, rfl⟩ rfl d_Md_write_289 (fun σ37 => ?_)
            refine kw_aload_n C d_Md_write_292 rfl ?_
            refine kw_getI C fi_Md_71 (Or.inl rfl) ht d_Md_write_293 ?_
            exact kw_iret C Ce rfl (by simp) (fun _ _ => rfl) (Nat.le_of_ble_eq_true rfl) (Nat.le_of_ble_eq_true rfl) rfl d_Md_write_296
          · refine kw_if_eq (tgt := 256) C d_Md_write_246 (by decide) ?_ ?_
            · refine kw_aload_n C d_Md_write_256 rfl ?_
              refine kw_callVv (cl' := 0) (sl' := 0) (As := []) C (c_Md_writePlain hl n ids ht  σ28) mi_Md_425 v_Md_writePlain ⟨_, _, rfl⟩ ht ⟨Nat.le_of_ble_eq_true rfl, Nat.le_of_ble_eq_true rfl⟩ (Nat.le_of_ble_eq_true rfl) ⟨Nat.le_of_ble_eq_true rfl, Nat.le_of_ble_eq_true rfl⟩ ⟨rfl, rfl⟩ rfl d_Md_write_257 (fun σ38 => ?_)
              exact kw_wk (hk29 () σ38) ⟨Or.inr rfl, Or.inl rfl, Or.inl rfl, Or.inl rfl, Or.inl rfl, Or.inl rfl, trivial⟩
            · refine kw_aload_n C d_Md_write_249 rfl ?_
              refine kw_callVv (cl' := 0) (sl' := 0) (As := []) C (c_Md_writeShort hl n ids ht  σ28) mi_Md_422 v_Md_writeShort ⟨_, _, rfl⟩ ht ⟨Nat.le_of_ble_eq_true rfl, Nat.le_of_ble_eq_true rfl⟩ (Nat.le_of_ble_eq_true rfl) ⟨Nat.le_of_ble_eq_true rfl, Nat.le_of_ble_eq_true rfl⟩ ⟨rfl, rfl⟩ rfl d_Md_write_250 (fun σ39 => ?_)
              refine kw_goto (tgt := 260) C d_Md_write_253 (by decide) ?_
              exact kw_wk (hk29 () σ39) ⟨Or.inr rfl, Or.inl rfl, Or.inl rfl, Or.inl rfl, Or.inl rfl, Or.inl rfl, trivial⟩
        · refine kw_if_eq (tgt := 210) C d_Md_write_203 (by decide) ?_ ?_
          · refine kw_iconst (v := 0) C d_Md_write_210 (by decide) ?_
            exact kw_wk (hk20 0 σ19) ⟨Or.inr rfl, Or.inr rfl, Or.inl rfl, Or.inl rfl, Or.inl rfl, Or.inl rfl, trivial⟩
          · refine kw_iconst (v := 1) C d_Md_write_206 (by decide) ?_
            refine kw_goto (tgt := 211) C d_Md_write_207 (by decide) ?_
            exact kw_wk (hk20 1 σ19) ⟨Or.inr rfl, Or.inr rfl, Or.inl rfl, Or.inl rfl, Or.inl rfl, Or.inl rfl, trivial⟩
      · refine kw_aload_n C d_Md_write_40 rfl ?_
        refine kw_iload_n C d_Md_write_41 rfl ?_
        refine kw_callVi (cl' := 0) (sl' := 0) (As := [.int x8]) C (c_Md_bestFilter hl n ids ht x8 σ9) mi_Md_394 v_Md_bestFilter ⟨_, _, rfl⟩ ht ⟨Nat.le_of_ble_eq_true rfl, Nat.le_of_ble_eq_true rfl⟩ (Nat.le_of_ble_eq_true rfl) ⟨Nat.le_of_ble_eq_true rfl, Nat.le_of_ble_eq_true rfl⟩ ⟨rfl, rfl⟩ rfl d_Md_write_42 (fun x40 σ41 => ?_)
        refine kw_istore_n (L' := [some (.ref t), some (.int a0), some (.int x8), some (.int x40), none, none]) C d_Md_write_45 (by decide) rfl ?_
        refine kw_aload_n C d_Md_write_46 rfl ?_
        refine kw_getR C fi_Md_40 rfl rfl ht d_Md_write_47 (fun o42 ho42 => ?_)
        refine kw_aload_n C d_Md_write_50 rfl ?_
        refine kw_getR C fi_Md_49 rfl rfl ht d_Md_write_51 (fun o43 ho43 => ?_)
        refine kw_iload_n C d_Md_write_54 rfl ?_
        refine kw_iald C (Or.inl ⟨ho43.1, ho43.2.1⟩) d_Md_write_55 ?_
        refine kw_iload_n C d_Md_write_56 rfl ?_
        refine kw_i2b C d_Md_write_57 ?_
        refine kw_bast C ho42 d_Md_write_58 (fun σ44 => ?_)
        refine kw_aload_n C d_Md_write_59 rfl ?_
        refine kw_getR C fi_Md_52 rfl rfl ht d_Md_write_60 (fun o45 ho45 => ?_)
        refine kw_iload_n C d_Md_write_63 rfl ?_
        refine kw_iald C (Or.inl ⟨ho45.1, ho45.2.1⟩) d_Md_write_64 ?_
        refine kw_iconst (v := 1) C d_Md_write_65 (by decide) ?_
        refine kw_isub C d_Md_write_66 ?_
        refine kw_leti (fun x46 => ?_)
        refine kw_istore (L' := [some (.ref t), some (.int a0), some (.int x8), some (.int x40), some (.int x46), none]) C d_Md_write_67 (by decide) rfl ?_
        refine kw_wk (kw_l (α := Int32) (pc := 69) (Lj := fun x48 => [some (.ref t), some (.int a0), some (.int x8), some (.int x40), some (.int x48), none]) (stj := fun x48 => []) (fun k47 hk47 x48 σ49 => ?_) n x46 σ44) ⟨Or.inr rfl, Or.inr rfl, Or.inr rfl, Or.inr rfl, Or.inr rfl, Or.inl rfl, trivial⟩
        refine kw_iload C d_Md_write_69 rfl ?_
        refine kw_if_lt (tgt := 117) C d_Md_write_71 (by decide) ?_ ?_
        · refine kw_iincL (L2 := fun x50 => [some (.ref t), some (.int a0), some (.int x50), some (.int x40), some (.int x48), none]) C d_Md_write_117 (by decide) rfl (fun _ => rfl) (fun x50 => ?_)
          refine kw_goto (tgt := 36) C d_Md_write_120 (by decide) ?_
          exact kw_wk (hk7 x50 σ49) ⟨Or.inr rfl, Or.inr rfl, Or.inr rfl, Or.inl rfl, Or.inl rfl, Or.inl rfl, trivial⟩
        · refine kw_aload_n C d_Md_write_74 rfl ?_
          refine kw_getR C fi_Md_49 rfl rfl ht d_Md_write_75 (fun o51 ho51 => ?_)
          refine kw_iload_n C d_Md_write_78 rfl ?_
          refine kw_iald C (Or.inl ⟨ho51.1, ho51.2.1⟩) d_Md_write_79 ?_
          refine kw_iconst (v := 1) C d_Md_write_80 (by decide) ?_
          refine kw_iadd C d_Md_write_81 ?_
          refine kw_iload C d_Md_write_82 rfl ?_
          refine kw_iadd C d_Md_write_84 ?_
          refine kw_leti (fun x52 => ?_)
          refine kw_istore (L' := [some (.ref t), some (.int a0), some (.int x8), some (.int x40), some (.int x48), some (.int x52)]) C d_Md_write_85 (by decide) rfl ?_
          refine kw_aload_n C d_Md_write_87 rfl ?_
          refine kw_getR C fi_Md_40 rfl rfl ht d_Md_write_88 (fun o53 ho53 => ?_)
          refine kw_iload C d_Md_write_91 rfl ?_
          refine kw_aload_n C d_Md_write_93 rfl ?_
          refine kw_getR C fi_Md_40 rfl rfl ht d_Md_write_94 (fun o54 ho54 => ?_)
          refine kw_iload C d_Md_write_97 rfl ?_
          refine kw_bald C ho54 d_Md_write_99 ?_
          refine kw_aload_n C d_Md_write_100 rfl ?_
          refine kw_iload_n C d_Md_write_101 rfl ?_
          refine kw_iload_n C d_Md_write_102 rfl ?_
          refine kw_iload C d_Md_write_103 rfl ?_
          refine kw_callVi (cl' := 0) (sl' := 0) (As := [.int x40, .int x8, .int x48]) C (c_Md_guess hl n ids ht x40 x8 x48 σ49) mi_Md_329 v_Md_guess ⟨_, _, rfl⟩ ht ⟨Nat.le_of_ble_eq_true rfl, Nat.le_of_ble_eq_true rfl⟩ (Nat.le_of_ble_eq_true rfl) ⟨Nat.le_of_ble_eq_true rfl, Nat.le_of_ble_eq_true rfl⟩ ⟨rfl, rfl⟩ rfl d_Md_write_105 (fun x55 σ56 => ?_)
          refine kw_isub C d_Md_write_108 ?_
          refine kw_i2b C d_Md_write_109 ?_
          refine kw_bast C ho53 d_Md_write_110 (fun σ57 => ?_)
          refine kw_iincL (L2 := fun x58 => [some (.ref t), some (.int a0), some (.int x8), some (.int x40), some (.int x58), some (.int x52)]) C d_Md_write_111 (by decide) rfl (fun _ => rfl) (fun x58 => ?_)
          refine kw_goto (tgt := 69) C d_Md_write_114 (by decide) ?_
          exact kw_wk (hk47 x58 σ57) ⟨Or.inr rfl, Or.inr rfl, Or.inr rfl, Or.inr rfl, Or.inr rfl, Or.inl rfl, trivial⟩
    · refine kw_iconst (v := 0) C d_Md_write_23 (by decide) ?_
      exact kw_iret C Ce rfl (by simp) (fun _ _ => rfl) (Nat.le_of_ble_eq_true rfl) (Nat.le_of_ble_eq_true rfl) rfl d_Md_write_24
  · refine kw_if_eq (tgt := 12) C d_Md_write_5 (by decide) ?_ ?_
    · refine kw_iconst (v := 1) C d_Md_write_12 (by decide) ?_
      exact kw_wk (hk1 1 σ) ⟨Or.inr rfl, Or.inr rfl, Or.inl rfl, Or.inl rfl, Or.inl rfl, Or.inl rfl, trivial⟩
    · refine kw_iconst (v := 0) C d_Md_write_8 (by decide) ?_
      refine kw_goto (tgt := 13) C d_Md_write_9 (by decide) ?_
      exact kw_wk (hk1 0 σ) ⟨Or.inr rfl, Or.inr rfl, Or.inl rfl, Or.inl rfl, Or.inl rfl, Or.inl rfl, trivial⟩
