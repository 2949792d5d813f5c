/-! the law's callers, with their handlers -/
theorem mi_Lw_7 : kw_mi "PictureFileLaw" 7 y_PF_feed prog_1_method_2_code 6 (some .int) 5 := ⟨(kw_m3 (i := 223) (by decide +kernel) (by decide +kernel)), w_PF_feed, in_PF, by decide +kernel, by decide +kernel, by decide +kernel⟩
theorem v_PF_feed : Cond.instanceMethod y_PF_feed ∈ kw_Ts ∧ Cond.selects y_PF_feed.cls y_PF_feed y_PF_feed ∈ kw_Ts := ⟨(kw_m3 (i := 224) (by decide +kernel) (by decide +kernel)), (kw_m3 (i := 225) (by decide +kernel) (by decide +kernel))⟩
def y_Lw_feed : MethodName := ⟨"PictureFileLaw", "feed", "(LPictureFile;IIIII[J)I"⟩
theorem mi_Lw_15 : kw_mi "PictureFileLaw" 15 y_PF_end prog_1_method_3_code 2 none 1 := ⟨(kw_m4 (i := 68) (by decide +kernel) (by decide +kernel)), w_PF_end, in_PF, by decide +kernel, by decide +kernel, by decide +kernel⟩
theorem v_PF_end : Cond.instanceMethod y_PF_end ∈ kw_Ts ∧ Cond.selects y_PF_end.cls y_PF_end y_PF_end ∈ kw_Ts := ⟨(kw_m4 (i := 69) (by decide +kernel) (by decide +kernel)), (kw_m4 (i := 70) (by decide +kernel) (by decide +kernel))⟩
def y_Lw_end : MethodName := ⟨"PictureFileLaw", "end", "(LPictureFile;I)I"⟩
theorem mi_Lw_21 : kw_mi "PictureFileLaw" 21 y_PF_make prog_1_method_6_code 6 none 5 := ⟨(kw_m4 (i := 90) (by decide +kernel) (by decide +kernel)), w_PF_make, in_PF, by decide +kernel, by decide +kernel, by decide +kernel⟩
theorem v_PF_make : Cond.instanceMethod y_PF_make ∈ kw_Ts ∧ Cond.selects y_PF_make.cls y_PF_make y_PF_make ∈ kw_Ts := ⟨(kw_m4 (i := 91) (by decide +kernel) (by decide +kernel)), (kw_m4 (i := 92) (by decide +kernel) (by decide +kernel))⟩
def y_Lw_make : MethodName := ⟨"PictureFileLaw", "make", "(LPictureFile;IIIIZ)I"⟩
theorem mi_Lw_25 : kw_mi "PictureFileLaw" 25 y_PF_about prog_1_method_7_code 2 (some .int) 1 := ⟨(kw_m4 (i := 102) (by decide +kernel) (by decide +kernel)), w_PF_about, in_PF, by decide +kernel, by decide +kernel, by decide +kernel⟩
theorem v_PF_about : Cond.instanceMethod y_PF_about ∈ kw_Ts ∧ Cond.selects y_PF_about.cls y_PF_about y_PF_about ∈ kw_Ts := ⟨(kw_m4 (i := 103) (by decide +kernel) (by decide +kernel)), (kw_m4 (i := 104) (by decide +kernel) (by decide +kernel))⟩
def y_Lw_about : MethodName := ⟨"PictureFileLaw", "about", "(LPictureFile;I[J)I"⟩
theorem mi_Lw_31 : kw_mi "PictureFileLaw" 31 y_PF_sample prog_1_method_8_code 4 (some .int) 3 := ⟨(kw_m4 (i := 129) (by decide +kernel) (by decide +kernel)), w_PF_sample, in_PF, by decide +kernel, by decide +kernel, by decide +kernel⟩
theorem v_PF_sample : Cond.instanceMethod y_PF_sample ∈ kw_Ts ∧ Cond.selects y_PF_sample.cls y_PF_sample y_PF_sample ∈ kw_Ts := ⟨(kw_m4 (i := 130) (by decide +kernel) (by decide +kernel)), (kw_m4 (i := 131) (by decide +kernel) (by decide +kernel))⟩
def y_Lw_sample : MethodName := ⟨"PictureFileLaw", "sample", "(LPictureFile;III[J)I"⟩
theorem mi_Lw_37 : kw_mi "PictureFileLaw" 37 y_PF_set prog_1_method_9_code 5 none 4 := ⟨(kw_m4 (i := 156) (by decide +kernel) (by decide +kernel)), w_PF_set, in_PF, by decide +kernel, by decide +kernel, by decide +kernel⟩
theorem v_PF_set : Cond.instanceMethod y_PF_set ∈ kw_Ts ∧ Cond.selects y_PF_set.cls y_PF_set y_PF_set ∈ kw_Ts := ⟨(kw_m4 (i := 157) (by decide +kernel) (by decide +kernel)), (kw_m4 (i := 158) (by decide +kernel) (by decide +kernel))⟩
def y_Lw_set : MethodName := ⟨"PictureFileLaw", "set", "(LPictureFile;IIII)I"⟩
theorem mi_Lw_41 : kw_mi "PictureFileLaw" 41 y_PF_fill prog_1_method_10_code 9 none 6 := ⟨(kw_m4 (i := 175) (by decide +kernel) (by decide +kernel)), w_PF_fill, in_PF, by decide +kernel, by decide +kernel, by decide +kernel⟩
theorem v_PF_fill : Cond.instanceMethod y_PF_fill ∈ kw_Ts ∧ Cond.selects y_PF_fill.cls y_PF_fill y_PF_fill ∈ kw_Ts := ⟨(kw_m4 (i := 176) (by decide +kernel) (by decide +kernel)), (kw_m4 (i := 177) (by decide +kernel) (by decide +kernel))⟩
def y_Lw_fill : MethodName := ⟨"PictureFileLaw", "fill", "(LPictureFile;IIIIII)I"⟩
theorem mi_Lw_45 : kw_mi "PictureFileLaw" 45 y_PF_colour prog_1_method_11_code 4 (some .int) 3 := ⟨(kw_m4 (i := 182) (by decide +kernel) (by decide +kernel)), w_PF_colour, in_PF, by decide +kernel, by decide +kernel, by decide +kernel⟩
theorem v_PF_colour : Cond.instanceMethod y_PF_colour ∈ kw_Ts ∧ Cond.selects y_PF_colour.cls y_PF_colour y_PF_colour ∈ kw_Ts := ⟨(kw_m4 (i := 183) (by decide +kernel) (by decide +kernel)), (kw_m4 (i := 184) (by decide +kernel) (by decide +kernel))⟩
def y_Lw_colour : MethodName := ⟨"PictureFileLaw", "colour", "(LPictureFile;III[J)I"⟩
theorem mi_Lw_48 : kw_mi "PictureFileLaw" 48 y_PF_ofColour prog_1_method_12_code 3 (some .int) 2 := ⟨(kw_m4 (i := 191) (by decide +kernel) (by decide +kernel)), w_PF_ofColour, in_PF, by decide +kernel, by decide +kernel, by decide +kernel⟩
theorem v_PF_ofColour : Cond.instanceMethod y_PF_ofColour ∈ kw_Ts ∧ Cond.selects y_PF_ofColour.cls y_PF_ofColour y_PF_ofColour ∈ kw_Ts := ⟨(kw_m4 (i := 192) (by decide +kernel) (by decide +kernel)), (kw_m4 (i := 193) (by decide +kernel) (by decide +kernel))⟩
def y_Lw_ofColour : MethodName := ⟨"PictureFileLaw", "ofColour", "(LPictureFile;II[J)I"⟩
theorem mi_Lw_52 : kw_mi "PictureFileLaw" 52 y_PF_thin prog_1_method_13_code 4 (some .int) 3 := ⟨(kw_m4 (i := 198) (by decide +kernel) (by decide +kernel)), w_PF_thin, in_PF, by decide +kernel, by decide +kernel, by decide +kernel⟩
theorem v_PF_thin : Cond.instanceMethod y_PF_thin ∈ kw_Ts ∧ Cond.selects y_PF_thin.cls y_PF_thin y_PF_thin ∈ kw_Ts := ⟨(kw_m4 (i := 199) (by decide +kernel) (by decide +kernel)), (kw_m4 (i := 200) (by decide +kernel) (by decide +kernel))⟩
def y_Lw_thin : MethodName := ⟨"PictureFileLaw", "thin", "(LPictureFile;III[J)I"⟩
theorem mi_Lw_55 : kw_mi "PictureFileLaw" 55 y_PF_ofThin prog_1_method_14_code 2 (some .int) 1 := ⟨(kw_m4 (i := 210) (by decide +kernel) (by decide +kernel)), w_PF_ofThin, in_PF, by decide +kernel, by decide +kernel, by decide +kernel⟩
theorem v_PF_ofThin : Cond.instanceMethod y_PF_ofThin ∈ kw_Ts ∧ Cond.selects y_PF_ofThin.cls y_PF_ofThin y_PF_ofThin ∈ kw_Ts := ⟨(kw_m4 (i := 211) (by decide +kernel) (by decide +kernel)), (kw_m4 (i := 212) (by decide +kernel) (by decide +kernel))⟩
def y_Lw_ofThin : MethodName := ⟨"PictureFileLaw", "ofThin", "(LPictureFile;I[J)I"⟩
theorem mi_Lw_58 : kw_mi "PictureFileLaw" 58 y_PF_filter prog_1_method_15_code 2 (some .int) 1 := ⟨(kw_m4 (i := 217) (by decide +kernel) (by decide +kernel)), w_PF_filter, in_PF, by decide +kernel, by decide +kernel, by decide +kernel⟩
theorem v_PF_filter : Cond.instanceMethod y_PF_filter ∈ kw_Ts ∧ Cond.selects y_PF_filter.cls y_PF_filter y_PF_filter ∈ kw_Ts := ⟨(kw_m4 (i := 218) (by decide +kernel) (by decide +kernel)), (kw_m4 (i := 219) (by decide +kernel) (by decide +kernel))⟩
def y_Lw_filter : MethodName := ⟨"PictureFileLaw", "filter", "(LPictureFile;I[J)I"⟩
theorem mi_Lw_61 : kw_mi "PictureFileLaw" 61 y_PF_write prog_1_method_16_code 2 (some .int) 1 := ⟨(kw_m5 (i := 0) (by decide +kernel) (by decide +kernel)), w_PF_write, in_PF, by decide +kernel, by decide +kernel, by decide +kernel⟩
theorem v_PF_write : Cond.instanceMethod y_PF_write ∈ kw_Ts ∧ Cond.selects y_PF_write.cls y_PF_write y_PF_write ∈ kw_Ts := ⟨(kw_m5 (i := 1) (by decide +kernel) (by decide +kernel)), (kw_m5 (i := 2) (by decide +kernel) (by decide +kernel))⟩
def y_Lw_write : MethodName := ⟨"PictureFileLaw", "write", "(LPictureFile;Z[J)I"⟩
theorem mi_Lw_65 : kw_mi "PictureFileLaw" 65 y_PF_byteAt prog_1_method_17_code 2 (some .int) 1 := ⟨(kw_m5 (i := 110) (by decide +kernel) (by decide +kernel)), w_PF_byteAt, in_PF, by decide +kernel, by decide +kernel, by decide +kernel⟩
theorem v_PF_byteAt : Cond.instanceMethod y_PF_byteAt ∈ kw_Ts ∧ Cond.selects y_PF_byteAt.cls y_PF_byteAt y_PF_byteAt ∈ kw_Ts := ⟨(kw_m5 (i := 111) (by decide +kernel) (by decide +kernel)), (kw_m5 (i := 112) (by decide +kernel) (by decide +kernel))⟩
def y_Lw_byteAt : MethodName := ⟨"PictureFileLaw", "byteAt", "(LPictureFile;I[J)I"⟩
theorem mi_Lw_68 : kw_mi "PictureFileLaw" 68 y_PF_spoil prog_1_method_18_code 3 none 2 := ⟨(kw_m5 (i := 121) (by decide +kernel) (by decide +kernel)), w_PF_spoil, in_PF, by decide +kernel, by decide +kernel, by decide +kernel⟩
theorem v_PF_spoil : Cond.instanceMethod y_PF_spoil ∈ kw_Ts ∧ Cond.selects y_PF_spoil.cls y_PF_spoil y_PF_spoil ∈ kw_Ts := ⟨(kw_m5 (i := 122) (by decide +kernel) (by decide +kernel)), (kw_m5 (i := 123) (by decide +kernel) (by decide +kernel))⟩
def y_Lw_spoil : MethodName := ⟨"PictureFileLaw", "spoil", "(LPictureFile;II)I"⟩
theorem mi_Lw_72 : kw_mi "PictureFileLaw" 72 y_PF_mend prog_1_method_19_code 3 none 2 := ⟨(kw_m5 (i := 128) (by decide +kernel) (by decide +kernel)), w_PF_mend, in_PF, by decide +kernel, by decide +kernel, by decide +kernel⟩
theorem v_PF_mend : Cond.instanceMethod y_PF_mend ∈ kw_Ts ∧ Cond.selects y_PF_mend.cls y_PF_mend y_PF_mend ∈ kw_Ts := ⟨(kw_m5 (i := 129) (by decide +kernel) (by decide +kernel)), (kw_m5 (i := 130) (by decide +kernel) (by decide +kernel))⟩
def y_Lw_mend : MethodName := ⟨"PictureFileLaw", "mend", "(LPictureFile;II)I"⟩
/-! Lw_feed -/
def rm_Lw_feed : Room := { frames := 7, cells := 1, slots := 6, locals := 114 }
def hs_Lw_feed : List kw_H := [((0, 16, 19, 13), "java/lang/UnsupportedOperationException")]
theorem w_Lw_feed : Cond.codeWith y_Lw_feed method_3_code 8 (some .int) (hs_Lw_feed.map Prod.fst) ∈ kw_Ts := (kw_m3 (i := 221) (by decide +kernel) (by decide +kernel))
theorem hk_Lw_feed (pc : Nat) (h1 : 0 ≤ pc) (h2 : pc < 16) : kw_hok "PictureFileLaw" pc hs_Lw_feed := List.forall_mem_cons.mpr ⟨⟨⟨h1, h2⟩, by decide, (kw_m3 (i := 222) (by decide +kernel) (by decide +kernel))⟩, fun _ h => nomatch h⟩
def F_Lw_feed (n : Nat) (r0 : Nat) (a1 : Int32) (a2 : Int32) (a3 : Int32) (a4 : Int32) (a5 : Int32) (r6 : Nat) (σ : Mm) : Option (Int32 × Mm) :=
kf_h (F_PF_feed n r0 a1 a2 a3 a4 a5 σ) (fun E3 σ4 => if E3 = "java/lang/UnsupportedOperationException" then some (1, σ4) else none) fun x2 σ1 =>
kf_in 0 (mm_kd r6).2.2 <| kf_let (pK σ1 r6 (0 : Int32).toNatClampNeg x2.toInt64) fun σ5 =>
some (0, σ5)
theorem d_Lw_feed_0 : decode method_3_code 0 = .ok (.aload 6, 2) := by decide +kernel
theorem d_Lw_feed_2 : decode method_3_code 2 = .ok (.iconst 0, 1) := by decide +kernel
theorem d_Lw_feed_3 : decode method_3_code 3 = .ok (.aload_n 0, 1) := by decide +kernel
theorem d_Lw_feed_4 : decode method_3_code 4 = .ok (.iload_n 1, 1) := by decide +kernel
theorem d_Lw_feed_5 : decode method_3_code 5 = .ok (.iload_n 2, 1) := by decide +kernel
theorem d_Lw_feed_6 : decode method_3_code 6 = .ok (.iload_n 3, 1) := by decide +kernel
theorem d_Lw_feed_7 : decode method_3_code 7 = .ok (.iload 4, 2) := by decide +kernel
theorem d_Lw_feed_9 : decode method_3_code 9 = .ok (.iload 5, 2) := by decide +kernel
theorem d_Lw_feed_11 : decode method_3_code 11 = .ok (.invokevirtual 7, 3) := by decide +kernel
theorem d_Lw_feed_14 : decode method_3_code 14 = .ok (.i2l, 1) := by decide +kernel
theorem d_Lw_feed_15 : decode method_3_code 15 = .ok (.lastore, 1) := by decide +kernel
theorem d_Lw_feed_16 : decode method_3_code 16 = .ok (.goto 7, 3) := by decide +kernel
theorem d_Lw_feed_19 : decode method_3_code 19 = .ok (.astore 7, 2) := by decide +kernel
theorem d_Lw_feed_21 : decode method_3_code 21 = .ok (.iconst 1, 1) := by decide +kernel
theorem d_Lw_feed_22 : decode method_3_code 22 = .ok (.ireturn, 1) := by decide +kernel
theorem d_Lw_feed_23 : decode method_3_code 23 = .ok (.iconst 0, 1) := by decide +kernel
theorem d_Lw_feed_24 : decode method_3_code 24 = .ok (.ireturn, 1) := by decide +kernel
set_option maxRecDepth 100000 in
set_option maxHeartbeats 4000000 in
theorem c_Lw_feed {l0 : Launch} (hl : l0.stackTraces = false) (n : Nat) (ids : List Nat) {r0 : Nat} (hr0 : mm_ok ids r0 1 0) {r6 : Nat} (hr6 : mm_ok ids r6 4 0) (a1 : Int32) (a2 : Int32) (a3 : Int32) (a4 : Int32) (a5 : Int32) (σ : Mm) : kw_C l0 y_Lw_feed (Cond.codeWith y_Lw_feed method_3_code 8 (some .int) (hs_Lw_feed.map Prod.fst) :: kw_Ts) rm_Lw_feed kw_oi ids [] [.ref r0, .int a1, .int a2, .int a3, .int a4, .int a5, .ref r6] σ (F_Lw_feed n r0 a1 a2 a3 a4 a5 r6 σ) := by
  refine kw_startH (hs := hs_Lw_feed) (L0 := [some (.ref r0), some (.int a1), some (.int a2), some (.int a3), some (.int a4), some (.int a5), some (.ref r6), none]) hl (by decide +kernel) (Nat.le_of_ble_eq_true rfl) rfl (fun Γ ad C Ce => ?_)
  unfold F_Lw_feed
  refine kw_aload C d_Lw_feed_0 rfl ?_
  refine kw_iconst (v := 0) C d_Lw_feed_2 (by decide) ?_
  refine kw_aload_n C d_Lw_feed_3 rfl ?_
  refine kw_iload_n C d_Lw_feed_4 rfl ?_
  refine kw_iload_n C d_Lw_feed_5 rfl ?_
  refine kw_iload_n C d_Lw_feed_6 rfl ?_
  refine kw_iload C d_Lw_feed_7 rfl ?_
  refine kw_iload C d_Lw_feed_9 rfl ?_
  refine kw_callVhi (As := [.int a1, .int a2, .int a3, .int a4, .int a5]) (cl' := 1) (sl' := 6) C (c_PF_feed hl n ids hr0 a1 a2 a3 a4 a5 σ) mi_Lw_7 v_PF_feed ⟨_, _, rfl⟩ hr0 ⟨Nat.le_of_ble_eq_true rfl, Nat.le_of_ble_eq_true rfl⟩ (Nat.le_of_ble_eq_true rfl) ⟨Nat.le_of_ble_eq_true rfl, Nat.le_of_ble_eq_true rfl⟩ ⟨rfl, rfl⟩ rfl d_Lw_feed_11 (fun E3 σ4 => kx_if (kx_catch (hs := hs_Lw_feed) C (hk_Lw_feed 11 (by decide) (by decide)) (by decide +kernel) (Or.inl ⟨d_Lw_feed_19, rfl⟩) (by decide) rfl (kw_iconst (v := 1) C d_Lw_feed_21 (by decide) (kw_iret C Ce rfl (by simp) (fun _ _ => rfl) (Nat.le_of_ble_eq_true rfl) (Nat.le_of_ble_eq_true rfl) rfl d_Lw_feed_22))) (fun _ => kx_none)) (fun x2 σ1 => ?_)
  refine kw_i2l C d_Lw_feed_14 ?_
  refine kw_last C hr6 d_Lw_feed_15 (fun σ5 => ?_)
  refine kw_goto (tgt := 23) C d_Lw_feed_16 (by decide) ?_
  refine kw_iconst (v := 0) C d_Lw_feed_23 (by decide) ?_
  exact kw_iret C Ce rfl (by simp) (fun _ _ => rfl) (Nat.le_of_ble_eq_true rfl) (Nat.le_of_ble_eq_true rfl) rfl d_Lw_feed_24
/-! Lw_end -/
def rm_Lw_end : Room := { frames := 7, cells := 1, slots := 6, locals := 110 }
def hs_Lw_end : List kw_H := [((0, 5, 8, 19), "java/lang/IllegalArgumentException")]
theorem w_Lw_end : Cond.codeWith y_Lw_end method_4_code 3 (some .int) (hs_Lw_end.map Prod.fst) ∈ kw_Ts := (kw_m4 (i := 66) (by decide +kernel) (by decide +kernel))
theorem hk_Lw_end (pc : Nat) (h1 : 0 ≤ pc) (h2 : pc < 5) : kw_hok "PictureFileLaw" pc hs_Lw_end := List.forall_mem_cons.mpr ⟨⟨⟨h1, h2⟩, by decide, (kw_m4 (i := 67) (by decide +kernel) (by decide +kernel))⟩, fun _ h => nomatch h⟩
def F_Lw_end (n : Nat) (r0 : Nat) (a1 : Int32) (σ : Mm) : Option (Int32 × Mm) :=
kf_h (F_PF_end n r0 a1 σ) (fun E3 σ4 => if E3 = "java/lang/IllegalArgumentException" then some (1, σ4) else none) fun x2 σ1 =>
some (0, σ1)
theorem d_Lw_end_0 : decode method_4_code 0 = .ok (.aload_n 0, 1) := by decide +kernel
theorem d_Lw_end_1 : decode method_4_code 1 = .ok (.iload_n 1, 1) := by decide +kernel
theorem d_Lw_end_2 : decode method_4_code 2 = .ok (.invokevirtual 15, 3) := by decide +kernel
theorem d_Lw_end_5 : decode method_4_code 5 = .ok (.goto 6, 3) := by decide +kernel
theorem d_Lw_end_8 : decode method_4_code 8 = .ok (.astore_n 2, 1) := by decide +kernel
theorem d_Lw_end_9 : decode method_4_code 9 = .ok (.iconst 1, 1) := by decide +kernel
theorem d_Lw_end_10 : decode method_4_code 10 = .ok (.ireturn, 1) := by decide +kernel
theorem d_Lw_end_11 : decode method_4_code 11 = .ok (.iconst 0, 1) := by decide +kernel
theorem d_Lw_end_12 : decode method_4_code 12 = .ok (.ireturn, 1) := by decide +kernel
set_option maxRecDepth 100000 in
set_option maxHeartbeats 4000000 in
theorem c_Lw_end {l0 : Launch} (hl : l0.stackTraces = false) (n : Nat) (ids : List Nat) {r0 : Nat} (hr0 : mm_ok ids r0 1 0) (a1 : Int32) (σ : Mm) : kw_C l0 y_Lw_end (Cond.codeWith y_Lw_end method_4_code 3 (some .int) (hs_Lw_end.map Prod.fst) :: kw_Ts) rm_Lw_end kw_oi ids [] [.ref r0, .int a1] σ (F_Lw_end n r0 a1 σ) := by
  refine kw_startH (hs := hs_Lw_end) (L0 := [some (.ref r0), some (.int a1), none]) hl (by decide +kernel) (Nat.le_of_ble_eq_true rfl) rfl (fun Γ ad C Ce => ?_)
  unfold F_Lw_end
  refine kw_aload_n C d_Lw_end_0 rfl ?_
  refine kw_iload_n C d_Lw_end_1 rfl ?_
  refine kw_callVhv (As := [.int a1]) (cl' := 1) (sl' := 6) C (c_PF_end hl n ids hr0 a1 σ) mi_Lw_15 v_PF_end ⟨_, _, rfl⟩ hr0 ⟨Nat.le_of_ble_eq_true rfl, Nat.le_of_ble_eq_true rfl⟩ (Nat.le_of_ble_eq_true rfl) ⟨Nat.le_of_ble_eq_true rfl, Nat.le_of_ble_eq_true rfl⟩ ⟨rfl, rfl⟩ rfl d_Lw_end_2 (fun E3 σ4 => kx_if (kx_catch (hs := hs_Lw_end) C (hk_Lw_end 2 (by decide) (by decide)) (by decide +kernel) (Or.inr ⟨2, rfl, d_Lw_end_8, rfl⟩) (by decide) rfl (kw_iconst (v := 1) C d_Lw_end_9 (by decide) (kw_iret C Ce rfl (by simp) (fun _ _ => rfl) (Nat.le_of_ble_eq_true rfl) (Nat.le_of_ble_eq_true rfl) rfl d_Lw_end_10))) (fun _ => kx_none)) (fun x2 σ1 => ?_)
  refine kw_goto (tgt := 11) C d_Lw_end_5 (by decide) ?_
  refine kw_iconst (v := 0) C d_Lw_end_11 (by decide) ?_
  exact kw_iret C Ce rfl (by simp) (fun _ _ => rfl) (Nat.le_of_ble_eq_true rfl) (Nat.le_of_ble_eq_true rfl) rfl d_Lw_end_12
/-! Lw_make -/
def rm_Lw_make : Room := { frames := 7, cells := 1, slots := 6, locals := 114 }
def hs_Lw_make : List kw_H := [((0, 11, 14, 19), "java/lang/IllegalArgumentException")]
theorem w_Lw_make : Cond.codeWith y_Lw_make method_5_code 7 (some .int) (hs_Lw_make.map Prod.fst) ∈ kw_Ts := (kw_m4 (i := 89) (by decide +kernel) (by decide +kernel))
theorem hk_Lw_make (pc : Nat) (h1 : 0 ≤ pc) (h2 : pc < 11) : kw_hok "PictureFileLaw" pc hs_Lw_make := List.forall_mem_cons.mpr ⟨⟨⟨h1, h2⟩, by decide, (kw_m4 (i := 67) (by decide +kernel) (by decide +kernel))⟩, fun _ h => nomatch h⟩
def F_Lw_make (n : Nat) (r0 : Nat) (a1 : Int32) (a2 : Int32) (a3 : Int32) (a4 : Int32) (a5 : Int32) (σ : Mm) : Option (Int32 × Mm) :=
kf_h (F_PF_make n r0 a1 a2 a3 a4 a5 σ) (fun E3 σ4 => if E3 = "java/lang/IllegalArgumentException" then some (1, σ4) else none) fun x2 σ1 =>
some (0, σ1)
theorem d_Lw_make_0 : decode method_5_code 0 = .ok (.aload_n 0, 1) := by decide +kernel
theorem d_Lw_make_1 : decode method_5_code 1 = .ok (.iload_n 1, 1) := by decide +kernel
theorem d_Lw_make_2 : decode method_5_code 2 = .ok (.iload_n 2, 1) := by decide +kernel
theorem d_Lw_make_3 : decode method_5_code 3 = .ok (.iload_n 3, 1) := by decide +kernel
theorem d_Lw_make_4 : decode method_5_code 4 = .ok (.iload 4, 2) := by decide +kernel
theorem d_Lw_make_6 : decode method_5_code 6 = .ok (.iload 5, 2) := by decide +kernel
theorem d_Lw_make_8 : decode method_5_code 8 = .ok (.invokevirtual 21, 3) := by decide +kernel
theorem d_Lw_make_11 : decode method_5_code 11 = .ok (.goto 7, 3) := by decide +kernel
theorem d_Lw_make_14 : decode method_5_code 14 = .ok (.astore 6, 2) := by decide +kernel
theorem d_Lw_make_16 : decode method_5_code 16 = .ok (.iconst 1, 1) := by decide +kernel
theorem d_Lw_make_17 : decode method_5_code 17 = .ok (.ireturn, 1) := by decide +kernel
theorem d_Lw_make_18 : decode method_5_code 18 = .ok (.iconst 0, 1) := by decide +kernel
theorem d_Lw_make_19 : decode method_5_code 19 = .ok (.ireturn, 1) := by decide +kernel
set_option maxRecDepth 100000 in
set_option maxHeartbeats 4000000 in
theorem c_Lw_make {l0 : Launch} (hl : l0.stackTraces = false) (n : Nat) (ids : List Nat) {r0 : Nat} (hr0 : mm_ok ids r0 1 0) (a1 : Int32) (a2 : Int32) (a3 : Int32) (a4 : Int32) (a5 : Int32) (σ : Mm) : kw_C l0 y_Lw_make (Cond.codeWith y_Lw_make method_5_code 7 (some .int) (hs_Lw_make.map Prod.fst) :: kw_Ts) rm_Lw_make kw_oi ids [] [.ref r0, .int a1, .int a2, .int a3, .int a4, .int a5] σ (F_Lw_make n r0 a1 a2 a3 a4 a5 σ) := by
  refine kw_startH (hs := hs_Lw_make) (L0 := [some (.ref r0), some (.int a1), some (.int a2), some (.int a3), some (.int a4), some (.int a5), none]) hl (by decide +kernel) (Nat.le_of_ble_eq_true rfl) rfl (fun Γ ad C Ce => ?_)
  unfold F_Lw_make
  refine kw_aload_n C d_Lw_make_0 rfl ?_
  refine kw_iload_n C d_Lw_make_1 rfl ?_
  refine kw_iload_n C d_Lw_make_2 rfl ?_
  refine kw_iload_n C d_Lw_make_3 rfl ?_
  refine kw_iload C d_Lw_make_4 rfl ?_
  refine kw_iload C d_Lw_make_6 rfl ?_
  refine kw_callVhv (As := [.int a1, .int a2, .int a3, .int a4, .int a5]) (cl' := 1) (sl' := 6) C (c_PF_make hl n ids hr0 a1 a2 a3 a4 a5 σ) mi_Lw_21 v_PF_make ⟨_, _, rfl⟩ hr0 ⟨Nat.le_of_ble_eq_true rfl, Nat.le_of_ble_eq_true rfl⟩ (Nat.le_of_ble_eq_true rfl) ⟨Nat.le_of_ble_eq_true rfl, Nat.le_of_ble_eq_true rfl⟩ ⟨rfl, rfl⟩ rfl d_Lw_make_8 (fun E3 σ4 => kx_if (kx_catch (hs := hs_Lw_make) C (hk_Lw_make 8 (by decide) (by decide)) (by decide +kernel) (Or.inl ⟨d_Lw_make_14, rfl⟩) (by decide) rfl (kw_iconst (v := 1) C d_Lw_make_16 (by decide) (kw_iret C Ce rfl (by simp) (fun _ _ => rfl) (Nat.le_of_ble_eq_true rfl) (Nat.le_of_ble_eq_true rfl) rfl d_Lw_make_17))) (fun _ => kx_none)) (fun x2 σ1 => ?_)
  refine kw_goto (tgt := 18) C d_Lw_make_11 (by decide) ?_
  refine kw_iconst (v := 0) C d_Lw_make_18 (by decide) ?_
  exact kw_iret C Ce rfl (by simp) (fun _ _ => rfl) (Nat.le_of_ble_eq_true rfl) (Nat.le_of_ble_eq_true rfl) rfl d_Lw_make_19
/-! Lw_about -/
def rm_Lw_about : Room := { frames := 8, cells := 2, slots := 12, locals := 130 }
def hs_Lw_about : List kw_H := [((0, 9, 12, 29), "java/lang/IllegalStateException"), ((0, 9, 15, 19), "java/lang/IllegalArgumentException")]
theorem w_Lw_about : Cond.codeWith y_Lw_about method_6_code 4 (some .int) (hs_Lw_about.map Prod.fst) ∈ kw_Ts := (kw_m4 (i := 100) (by decide +kernel) (by decide +kernel))
theorem hk_Lw_about (pc : Nat) (h1 : 0 ≤ pc) (h2 : pc < 9) : kw_hok "PictureFileLaw" pc hs_Lw_about := List.forall_mem_cons.mpr ⟨⟨⟨h1, h2⟩, by decide, (kw_m4 (i := 101) (by decide +kernel) (by decide +kernel))⟩, List.forall_mem_cons.mpr ⟨⟨⟨h1, h2⟩, by decide, (kw_m4 (i := 67) (by decide +kernel) (by decide +kernel))⟩, fun _ h => nomatch h⟩⟩
def F_Lw_about (n : Nat) (r0 : Nat) (a1 : Int32) (r2 : Nat) (σ : Mm) : Option (Int32 × Mm) :=
kf_h (F_PF_about n r0 a1 σ) (fun E3 σ4 => if E3 = "java/lang/IllegalStateException" then some (1, σ4) else if E3 = "java/lang/IllegalArgumentException" then some (2, σ4) else none) fun x2 σ1 =>
kf_in 0 (mm_kd r2).2.2 <| kf_let (pK σ1 r2 (0 : Int32).toNatClampNeg x2.toInt64) fun σ5 =>
some (0, σ5)
theorem d_Lw_about_0 : decode method_6_code 0 = .ok (.aload_n 2, 1) := by decide +kernel
theorem d_Lw_about_1 : decode method_6_code 1 = .ok (.iconst 0, 1) := by decide +kernel
theorem d_Lw_about_2 : decode method_6_code 2 = .ok (.aload_n 0, 1) := by decide +kernel
theorem d_Lw_about_3 : decode method_6_code 3 = .ok (.iload_n 1, 1) := by decide +kernel
theorem d_Lw_about_4 : decode method_6_code 4 = .ok (.invokevirtual 25, 3) := by decide +kernel
theorem d_Lw_about_7 : decode method_6_code 7 = .ok (.i2l, 1) := by decide +kernel
theorem d_Lw_about_8 : decode method_6_code 8 = .ok (.lastore, 1) := by decide +kernel
theorem d_Lw_about_9 : decode method_6_code 9 = .ok (.goto 9, 3) := by decide +kernel
theorem d_Lw_about_12 : decode method_6_code 12 = .ok (.astore_n 3, 1) := by decide +kernel
theorem d_Lw_about_13 : decode method_6_code 13 = .ok (.iconst 1, 1) := by decide +kernel
theorem d_Lw_about_14 : decode method_6_code 14 = .ok (.ireturn, 1) := by decide +kernel
theorem d_Lw_about_15 : decode method_6_code 15 = .ok (.astore_n 3, 1) := by decide +kernel
theorem d_Lw_about_16 : decode method_6_code 16 = .ok (.iconst 2, 1) := by decide +kernel
theorem d_Lw_about_17 : decode method_6_code 17 = .ok (.ireturn, 1) := by decide +kernel
theorem d_Lw_about_18 : decode method_6_code 18 = .ok (.iconst 0, 1) := by decide +kernel
theorem d_Lw_about_19 : decode method_6_code 19 = .ok (.ireturn, 1) := by decide +kernel
set_option maxRecDepth 100000 in
set_option maxHeartbeats 4000000 in
theorem c_Lw_about {l0 : Launch} (hl : l0.stackTraces = false) (n : Nat) (ids : List Nat) {r0 : Nat} (hr0 : mm_ok ids r0 1 0) {r2 : Nat} (hr2 : mm_ok ids r2 4 0) (a1 : Int32) (σ : Mm) : kw_C l0 y_Lw_about (Cond.codeWith y_Lw_about method_6_code 4 (some .int) (hs_Lw_about.map Prod.fst) :: kw_Ts) rm_Lw_about kw_oi ids [] [.ref r0, .int a1, .ref r2] σ (F_Lw_about n r0 a1 r2 σ) := by
  refine kw_startH (hs := hs_Lw_about) (L0 := [some (.ref r0), some (.int a1), some (.ref r2), none]) hl (by decide +kernel) (Nat.le_of_ble_eq_true rfl) rfl (fun Γ ad C Ce => ?_)
  unfold F_Lw_about
  refine kw_aload_n C d_Lw_about_0 rfl ?_
  refine kw_iconst (v := 0) C d_Lw_about_1 (by decide) ?_
  refine kw_aload_n C d_Lw_about_2 rfl ?_
  refine kw_iload_n C d_Lw_about_3 rfl ?_
  refine kw_callVhi (As := [.int a1]) (cl' := 2) (sl' := 12) C (c_PF_about hl n ids hr0 a1 σ) mi_Lw_25 v_PF_about ⟨_, _, rfl⟩ hr0 ⟨Nat.le_of_ble_eq_true rfl, Nat.le_of_ble_eq_true rfl⟩ (Nat.le_of_ble_eq_true rfl) ⟨Nat.le_of_ble_eq_true rfl, Nat.le_of_ble_eq_true rfl⟩ ⟨rfl, rfl⟩ rfl d_Lw_about_4 (fun E3 σ4 => kx_if (kx_catch (hs := hs_Lw_about) C (hk_Lw_about 4 (by decide) (by decide)) (by decide +kernel) (Or.inr ⟨3, rfl, d_Lw_about_12, rfl⟩) (by decide) rfl (kw_iconst (v := 1) C d_Lw_about_13 (by decide) (kw_iret C Ce rfl (by simp) (fun _ _ => rfl) (Nat.le_of_ble_eq_true rfl) (Nat.le_of_ble_eq_true rfl) rfl d_Lw_about_14))) (fun _ => kx_if (kx_catch (hs := hs_Lw_about) C (hk_Lw_about 4 (by decide) (by decide)) (by decide +kernel) (Or.inr ⟨3, rfl, d_Lw_about_15, rfl⟩) (by decide) rfl (kw_iconst (v := 2) C d_Lw_about_16 (by decide) (kw_iret C Ce rfl (by simp) (fun _ _ => rfl) (Nat.le_of_ble_eq_true rfl) (Nat.le_of_ble_eq_true rfl) rfl d_Lw_about_17))) (fun _ => kx_none))) (fun x2 σ1 => ?_)
  refine kw_i2l C d_Lw_about_7 ?_
  refine kw_last C hr2 d_Lw_about_8 (fun σ5 => ?_)
  refine kw_goto (tgt := 18) C d_Lw_about_9 (by decide) ?_
  refine kw_iconst (v := 0) C d_Lw_about_18 (by decide) ?_
  exact kw_iret C Ce rfl (by simp) (fun _ _ => rfl) (Nat.le_of_ble_eq_true rfl) (Nat.le_of_ble_eq_true rfl) rfl d_Lw_about_19
/-! Lw_sample -/
def rm_Lw_sample : Room := { frames := 8, cells := 2, slots := 12, locals := 135 }
def hs_Lw_sample : List kw_H := [((0, 12, 15, 29), "java/lang/IllegalStateException"), ((0, 12, 19, 35), "java/lang/IndexOutOfBoundsException")]
theorem w_Lw_sample : Cond.codeWith y_Lw_sample method_7_code 6 (some .int) (hs_Lw_sample.map Prod.fst) ∈ kw_Ts := (kw_m4 (i := 127) (by decide +kernel) (by decide +kernel))
theorem hk_Lw_sample (pc : Nat) (h1 : 0 ≤ pc) (h2 : pc < 12) : kw_hok "PictureFileLaw" pc hs_Lw_sample := List.forall_mem_cons.mpr ⟨⟨⟨h1, h2⟩, by decide, (kw_m4 (i := 101) (by decide +kernel) (by decide +kernel))⟩, List.forall_mem_cons.mpr ⟨⟨⟨h1, h2⟩, by decide, (kw_m4 (i := 128) (by decide +kernel) (by decide +kernel))⟩, fun _ h => nomatch h⟩⟩
def F_Lw_sample (n : Nat) (r0 : Nat) (a1 : Int32) (a2 : Int32) (a3 : Int32) (r4 : Nat) (σ : Mm) : Option (Int32 × Mm) :=
kf_h (F_PF_sample n r0 a1 a2 a3 σ) (fun E3 σ4 => if E3 = "java/lang/IllegalStateException" then some (1, σ4) else if E3 = "java/lang/IndexOutOfBoundsException" then some (2, σ4) else none) fun x2 σ1 =>
kf_in 0 (mm_kd r4).2.2 <| kf_let (pK σ1 r4 (0 : Int32).toNatClampNeg x2.toInt64) fun σ5 =>
some (0, σ5)
theorem d_Lw_sample_0 : decode method_7_code 0 = .ok (.aload 4, 2) := by decide +kernel
theorem d_Lw_sample_2 : decode method_7_code 2 = .ok (.iconst 0, 1) := by decide +kernel
theorem d_Lw_sample_3 : decode method_7_code 3 = .ok (.aload_n 0, 1) := by decide +kernel
theorem d_Lw_sample_4 : decode method_7_code 4 = .ok (.iload_n 1, 1) := by decide +kernel
theorem d_Lw_sample_5 : decode method_7_code 5 = .ok (.iload_n 2, 1) := by decide +kernel
theorem d_Lw_sample_6 : decode method_7_code 6 = .ok (.iload_n 3, 1) := by decide +kernel
theorem d_Lw_sample_7 : decode method_7_code 7 = .ok (.invokevirtual 31, 3) := by decide +kernel
theorem d_Lw_sample_10 : decode method_7_code 10 = .ok (.i2l, 1) := by decide +kernel
theorem d_Lw_sample_11 : decode method_7_code 11 = .ok (.lastore, 1) := by decide +kernel
theorem d_Lw_sample_12 : decode method_7_code 12 = .ok (.goto 11, 3) := by decide +kernel
theorem d_Lw_sample_15 : decode method_7_code 15 = .ok (.astore 5, 2) := by decide +kernel
theorem d_Lw_sample_17 : decode method_7_code 17 = .ok (.iconst 1, 1) := by decide +kernel
theorem d_Lw_sample_18 : decode method_7_code 18 = .ok (.ireturn, 1) := by decide +kernel
theorem d_Lw_sample_19 : decode method_7_code 19 = .ok (.astore 5, 2) := by decide +kernel
theorem d_Lw_sample_21 : decode method_7_code 21 = .ok (.iconst 2, 1) := by decide +kernel
theorem d_Lw_sample_22 : decode method_7_code 22 = .ok (.ireturn, 1) := by decide +kernel
theorem d_Lw_sample_23 : decode method_7_code 23 = .ok (.iconst 0, 1) := by decide +kernel
theorem d_Lw_sample_24 : decode method_7_code 24 = .ok (.ireturn, 1) := by decide +kernel
set_option maxRecDepth 100000 in
set_option maxHeartbeats 4000000 in
theorem c_Lw_sample {l0 : Launch} (hl : l0.stackTraces = false) (n : Nat) (ids : List Nat) {r0 : Nat} (hr0 : mm_ok ids r0 1 0) {r4 : Nat} (hr4 : mm_ok ids r4 4 0) (a1 : Int32) (a2 : Int32) (a3 : Int32) (σ : Mm) : kw_C l0 y_Lw_sample (Cond.codeWith y_Lw_sample method_7_code 6 (some .int) (hs_Lw_sample.map Prod.fst) :: kw_Ts) rm_Lw_sample kw_oi ids [] [.ref r0, .int a1, .int a2, .int a3, .ref r4] σ (F_Lw_sample n r0 a1 a2 a3 r4 σ) := by
  refine kw_startH (hs := hs_Lw_sample) (L0 := [some (.ref r0), some (.int a1), some (.int a2), some (.int a3), some (.ref r4), none]) hl (by decide +kernel) (Nat.le_of_ble_eq_true rfl) rfl (fun Γ ad C Ce => ?_)
  unfold F_Lw_sample
  refine kw_aload C d_Lw_sample_0 rfl ?_
  refine kw_iconst (v := 0) C d_Lw_sample_2 (by decide) ?_
  refine kw_aload_n C d_Lw_sample_3 rfl ?_
  refine kw_iload_n C d_Lw_sample_4 rfl ?_
  refine kw_iload_n C d_Lw_sample_5 rfl ?_
  refine kw_iload_n C d_Lw_sample_6 rfl ?_
  refine kw_callVhi (As := [.int a1, .int a2, .int a3]) (cl' := 2) (sl' := 12) C (c_PF_sample hl n ids hr0 a1 a2 a3 σ) mi_Lw_31 v_PF_sample ⟨_, _, rfl⟩ hr0 ⟨Nat.le_of_ble_eq_true rfl, Nat.le_of_ble_eq_true rfl⟩ (Nat.le_of_ble_eq_true rfl) ⟨Nat.le_of_ble_eq_true rfl, Nat.le_of_ble_eq_true rfl⟩ ⟨rfl, rfl⟩ rfl d_Lw_sample_7 (fun E3 σ4 => kx_if (kx_catch (hs := hs_Lw_sample) C (hk_Lw_sample 7 (by decide) (by decide)) (by decide +kernel) (Or.inl ⟨d_Lw_sample_15, rfl⟩) (by decide) rfl (kw_iconst (v := 1) C d_Lw_sample_17 (by decide) (kw_iret C Ce rfl (by simp) (fun _ _ => rfl) (Nat.le_of_ble_eq_true rfl) (Nat.le_of_ble_eq_true rfl) rfl d_Lw_sample_18))) (fun _ => kx_if (kx_catch (hs := hs_Lw_sample) C (hk_Lw_sample 7 (by decide) (by decide)) (by decide +kernel) (Or.inl ⟨d_Lw_sample_19, rfl⟩) (by decide) rfl (kw_iconst (v := 2) C d_Lw_sample_21 (by decide) (kw_iret C Ce rfl (by simp) (fun _ _ => rfl) (Nat.le_of_ble_eq_true rfl) (Nat.le_of_ble_eq_true rfl) rfl d_Lw_sample_22))) (fun _ => kx_none))) (fun x2 σ1 => ?_)
  refine kw_i2l C d_Lw_sample_10 ?_
  refine kw_last C hr4 d_Lw_sample_11 (fun σ5 => ?_)
  refine kw_goto (tgt := 23) C d_Lw_sample_12 (by decide) ?_
  refine kw_iconst (v := 0) C d_Lw_sample_23 (by decide) ?_
  exact kw_iret C Ce rfl (by simp) (fun _ _ => rfl) (Nat.le_of_ble_eq_true rfl) (Nat.le_of_ble_eq_true rfl) rfl d_Lw_sample_24
/-! Lw_set -/
def rm_Lw_set : Room := { frames := 8, cells := 3, slots := 18, locals := 136 }
def hs_Lw_set : List kw_H := [((0, 9, 12, 29), "java/lang/IllegalStateException"), ((0, 9, 16, 35), "java/lang/IndexOutOfBoundsException"), ((0, 9, 20, 19), "java/lang/IllegalArgumentException")]
theorem w_Lw_set : Cond.codeWith y_Lw_set method_8_code 6 (some .int) (hs_Lw_set.map Prod.fst) ∈ kw_Ts := (kw_m4 (i := 155) (by decide +kernel) (by decide +kernel))
theorem hk_Lw_set (pc : Nat) (h1 : 0 ≤ pc) (h2 : pc < 9) : kw_hok "PictureFileLaw" pc hs_Lw_set := List.forall_mem_cons.mpr ⟨⟨⟨h1, h2⟩, by decide, (kw_m4 (i := 101) (by decide +kernel) (by decide +kernel))⟩, List.forall_mem_cons.mpr ⟨⟨⟨h1, h2⟩, by decide, (kw_m4 (i := 128) (by decide +kernel) (by decide +kernel))⟩, List.forall_mem_cons.mpr ⟨⟨⟨h1, h2⟩, by decide, (kw_m4 (i := 67) (by decide +kernel) (by decide +kernel))⟩, fun _ h => nomatch h⟩⟩⟩
def F_Lw_set (n : Nat) (r0 : Nat) (a1 : Int32) (a2 : Int32) (a3 : Int32) (a4 : Int32) (σ : Mm) : Option (Int32 × Mm) :=
kf_h (F_PF_set n r0 a1 a2 a3 a4 σ) (fun E3 σ4 => if E3 = "java/lang/IllegalStateException" then some (1, σ4) else if E3 = "java/lang/IndexOutOfBoundsException" then some (2, σ4) else if E3 = "java/lang/IllegalArgumentException" then some (3, σ4) else none) fun x2 σ1 =>
some (0, σ1)
theorem d_Lw_set_0 : decode method_8_code 0 = .ok (.aload_n 0, 1) := by decide +kernel
theorem d_Lw_set_1 : decode method_8_code 1 = .ok (.iload_n 1, 1) := by decide +kernel
theorem d_Lw_set_2 : decode method_8_code 2 = .ok (.iload_n 2, 1) := by decide +kernel
theorem d_Lw_set_3 : decode method_8_code 3 = .ok (.iload_n 3, 1) := by decide +kernel
theorem d_Lw_set_4 : decode method_8_code 4 = .ok (.iload 4, 2) := by decide +kernel
theorem d_Lw_set_6 : decode method_8_code 6 = .ok (.invokevirtual 37, 3) := by decide +kernel
theorem d_Lw_set_9 : decode method_8_code 9 = .ok (.goto 15, 3) := by decide +kernel
theorem d_Lw_set_12 : decode method_8_code 12 = .ok (.astore 5, 2) := by decide +kernel
theorem d_Lw_set_14 : decode method_8_code 14 = .ok (.iconst 1, 1) := by decide +kernel
theorem d_Lw_set_15 : decode method_8_code 15 = .ok (.ireturn, 1) := by decide +kernel
theorem d_Lw_set_16 : decode method_8_code 16 = .ok (.astore 5, 2) := by decide +kernel
theorem d_Lw_set_18 : decode method_8_code 18 = .ok (.iconst 2, 1) := by decide +kernel
theorem d_Lw_set_19 : decode method_8_code 19 = .ok (.ireturn, 1) := by decide +kernel
theorem d_Lw_set_20 : decode method_8_code 20 = .ok (.astore 5, 2) := by decide +kernel
theorem d_Lw_set_22 : decode method_8_code 22 = .ok (.iconst 3, 1) := by decide +kernel
theorem d_Lw_set_23 : decode method_8_code 23 = .ok (.ireturn, 1) := by decide +kernel
theorem d_Lw_set_24 : decode method_8_code 24 = .ok (.iconst 0, 1) := by decide +kernel
theorem d_Lw_set_25 : decode method_8_code 25 = .ok (.ireturn, 1) := by decide +kernel
set_option maxRecDepth 100000 in
set_option maxHeartbeats 4000000 in
theorem c_Lw_set {l0 : Launch} (hl : l0.stackTraces = false) (n : Nat) (ids : List Nat) {r0 : Nat} (hr0 : mm_ok ids r0 1 0) (a1 : Int32) (a2 : Int32) (a3 : Int32) (a4 : Int32) (σ : Mm) : kw_C l0 y_Lw_set (Cond.codeWith y_Lw_set method_8_code 6 (some .int) (hs_Lw_set.map Prod.fst) :: kw_Ts) rm_Lw_set kw_oi ids [] [.ref r0, .int a1, .int a2, .int a3, .int a4] σ (F_Lw_set n r0 a1 a2 a3 a4 σ) := by
  refine kw_startH (hs := hs_Lw_set) (L0 := [some (.ref r0), some (.int a1), some (.int a2), some (.int a3), some (.int a4), none]) hl (by decide +kernel) (Nat.le_of_ble_eq_true rfl) rfl (fun Γ ad C Ce => ?_)
  unfold F_Lw_set
  refine kw_aload_n C d_Lw_set_0 rfl ?_
  refine kw_iload_n C d_Lw_set_1 rfl ?_
  refine kw_iload_n C d_Lw_set_2 rfl ?_
  refine kw_iload_n C d_Lw_set_3 rfl ?_
  refine kw_iload C d_Lw_set_4 rfl ?_
  refine kw_callVhv (As := [.int a1, .int a2, .int a3, .int a4]) (cl' := 3) (sl' := 18) C (c_PF_set hl n ids hr0 a1 a2 a3 a4 σ) mi_Lw_37 v_PF_set ⟨_, _, rfl⟩ hr0 ⟨Nat.le_of_ble_eq_true rfl, Nat.le_of_ble_eq_true rfl⟩ (Nat.le_of_ble_eq_true rfl) ⟨Nat.le_of_ble_eq_true rfl, Nat.le_of_ble_eq_true rfl⟩ ⟨rfl, rfl⟩ rfl d_Lw_set_6 (fun E3 σ4 => kx_if (kx_catch (hs := hs_Lw_set) C (hk_Lw_set 6 (by decide) (by decide)) (by decide +kernel) (Or.inl ⟨d_Lw_set_12, rfl⟩) (by decide) rfl (kw_iconst (v := 1) C d_Lw_set_14 (by decide) (kw_iret C Ce rfl (by simp) (fun _ _ => rfl) (Nat.le_of_ble_eq_true rfl) (Nat.le_of_ble_eq_true rfl) rfl d_Lw_set_15))) (fun _ => kx_if (kx_catch (hs := hs_Lw_set) C (hk_Lw_set 6 (by decide) (by decide)) (by decide +kernel) (Or.inl ⟨d_Lw_set_16, rfl⟩) (by decide) rfl (kw_iconst (v := 2) C d_Lw_set_18 (by decide) (kw_iret C Ce rfl (by simp) (fun _ _ => rfl) (Nat.le_of_ble_eq_true rfl) (Nat.le_of_ble_eq_true rfl) rfl d_Lw_set_19))) (fun _ => kx_if (kx_catch (hs := hs_Lw_set) C (hk_Lw_set 6 (by decide) (by decide)) (by decide +kernel) (Or.inl ⟨d_Lw_set_20, rfl⟩) (by decide) rfl (kw_iconst (v := 3) C d_Lw_set_22 (by decide) (kw_iret C Ce rfl (by simp) (fun _ _ => rfl) (Nat.le_of_ble_eq_true rfl) (Nat.le_of_ble_eq_true rfl) rfl d_Lw_set_23))) (fun _ => kx_none)))) (fun x2 σ1 => ?_)
  refine kw_goto (tgt := 24) C d_Lw_set_9 (by decide) ?_
  refine kw_iconst (v := 0) C d_Lw_set_24 (by decide) ?_
  exact kw_iret C Ce rfl (by simp) (fun _ _ => rfl) (Nat.le_of_ble_eq_true rfl) (Nat.le_of_ble_eq_true rfl) rfl d_Lw_set_25
/-! Lw_fill -/
def rm_Lw_fill : Room := { frames := 8, cells := 4, slots := 24, locals := 140 }
def hs_Lw_fill : List kw_H := [((0, 13, 16, 29), "java/lang/IllegalStateException"), ((0, 13, 20, 35), "java/lang/IndexOutOfBoundsException"), ((0, 13, 24, 19), "java/lang/IllegalArgumentException")]
theorem w_Lw_fill : Cond.codeWith y_Lw_fill method_9_code 8 (some .int) (hs_Lw_fill.map Prod.fst) ∈ kw_Ts := (kw_m4 (i := 174) (by decide +kernel) (by decide +kernel))
theorem hk_Lw_fill (pc : Nat) (h1 : 0 ≤ pc) (h2 : pc < 13) : kw_hok "PictureFileLaw" pc hs_Lw_fill := List.forall_mem_cons.mpr ⟨⟨⟨h1, h2⟩, by decide, (kw_m4 (i := 101) (by decide +kernel) (by decide +kernel))⟩, List.forall_mem_cons.mpr ⟨⟨⟨h1, h2⟩, by decide, (kw_m4 (i := 128) (by decide +kernel) (by decide +kernel))⟩, List.forall_mem_cons.mpr ⟨⟨⟨h1, h2⟩, by decide, (kw_m4 (i := 67) (by decide +kernel) (by decide +kernel))⟩, fun _ h => nomatch h⟩⟩⟩
def F_Lw_fill (n : Nat) (r0 : Nat) (a1 : Int32) (a2 : Int32) (a3 : Int32) (a4 : Int32) (a5 : Int32) (a6 : Int32) (σ : Mm) : Option (Int32 × Mm) :=
kf_h (F_PF_fill n r0 a1 a2 a3 a4 a5 a6 σ) (fun E3 σ4 => if E3 = "java/lang/IllegalStateException" then some (1, σ4) else if E3 = "java/lang/IndexOutOfBoundsException" then some (2, σ4) else if E3 = "java/lang/IllegalArgumentException" then some (3, σ4) else none) fun x2 σ1 =>
some (0, σ1)
theorem d_Lw_fill_0 : decode method_9_code 0 = .ok (.aload_n 0, 1) := by decide +kernel
theorem d_Lw_fill_1 : decode method_9_code 1 = .ok (.iload_n 1, 1) := by decide +kernel
theorem d_Lw_fill_2 : decode method_9_code 2 = .ok (.iload_n 2, 1) := by decide +kernel
theorem d_Lw_fill_3 : decode method_9_code 3 = .ok (.iload_n 3, 1) := by decide +kernel
theorem d_Lw_fill_4 : decode method_9_code 4 = .ok (.iload 4, 2) := by decide +kernel
theorem d_Lw_fill_6 : decode method_9_code 6 = .ok (.iload 5, 2) := by decide +kernel
theorem d_Lw_fill_8 : decode method_9_code 8 = .ok (.iload 6, 2) := by decide +kernel
theorem d_Lw_fill_10 : decode method_9_code 10 = .ok (.invokevirtual 41, 3) := by decide +kernel
theorem d_Lw_fill_13 : decode method_9_code 13 = .ok (.goto 15, 3) := by decide +kernel
theorem d_Lw_fill_16 : decode method_9_code 16 = .ok (.astore 7, 2) := by decide +kernel
theorem d_Lw_fill_18 : decode method_9_code 18 = .ok (.iconst 1, 1) := by decide +kernel
theorem d_Lw_fill_19 : decode method_9_code 19 = .ok (.ireturn, 1) := by decide +kernel
theorem d_Lw_fill_20 : decode method_9_code 20 = .ok (.astore 7, 2) := by decide +kernel
theorem d_Lw_fill_22 : decode method_9_code 22 = .ok (.iconst 2, 1) := by decide +kernel
theorem d_Lw_fill_23 : decode method_9_code 23 = .ok (.ireturn, 1) := by decide +kernel
theorem d_Lw_fill_24 : decode method_9_code 24 = .ok (.astore 7, 2) := by decide +kernel
theorem d_Lw_fill_26 : decode method_9_code 26 = .ok (.iconst 3, 1) := by decide +kernel
theorem d_Lw_fill_27 : decode method_9_code 27 = .ok (.ireturn, 1) := by decide +kernel
theorem d_Lw_fill_28 : decode method_9_code 28 = .ok (.iconst 0, 1) := by decide +kernel
theorem d_Lw_fill_29 : decode method_9_code 29 = .ok (.ireturn, 1) := by decide +kernel
set_option maxRecDepth 100000 in
set_option maxHeartbeats 4000000 in
theorem c_Lw_fill {l0 : Launch} (hl : l0.stackTraces = false) (n : Nat) (ids : List Nat) {r0 : Nat} (hr0 : mm_ok ids r0 1 0) (a1 : Int32) (a2 : Int32) (a3 : Int32) (a4 : Int32) (a5 : Int32) (a6 : Int32) (σ : Mm) : kw_C l0 y_Lw_fill (Cond.codeWith y_Lw_fill method_9_code 8 (some .int) (hs_Lw_fill.map Prod.fst) :: kw_Ts) rm_Lw_fill kw_oi ids [] [.ref r0, .int a1, .int a2, .int a3, .int a4, .int a5, .int a6] σ (F_Lw_fill n r0 a1 a2 a3 a4 a5 a6 σ) := by
  refine kw_startH (hs := hs_Lw_fill) (L0 := [some (.ref r0), some (.int a1), some (.int a2), some (.int a3), some (.int a4), some (.int a5), some (.int a6), none]) hl (by decide +kernel) (Nat.le_of_ble_eq_true rfl) rfl (fun Γ ad C Ce => ?_)
  unfold F_Lw_fill
  refine kw_aload_n C d_Lw_fill_0 rfl ?_
  refine kw_iload_n C d_Lw_fill_1 rfl ?_
  refine kw_iload_n C d_Lw_fill_2 rfl ?_
  refine kw_iload_n C d_Lw_fill_3 rfl ?_
  refine kw_iload C d_Lw_fill_4 rfl ?_
  refine kw_iload C d_Lw_fill_6 rfl ?_
  refine kw_iload C d_Lw_fill_8 rfl ?_
  refine kw_callVhv (As := [.int a1, .int a2, .int a3, .int a4, .int a5, .int a6]) (cl' := 4) (sl' := 24) C (c_PF_fill hl n ids hr0 a1 a2 a3 a4 a5 a6 σ) mi_Lw_41 v_PF_fill ⟨_, _, rfl⟩ hr0 ⟨Nat.le_of_ble_eq_true rfl, Nat.le_of_ble_eq_true rfl⟩ (Nat.le_of_ble_eq_true rfl) ⟨Nat.le_of_ble_eq_true rfl, Nat.le_of_ble_eq_true rfl⟩ ⟨rfl, rfl⟩ rfl d_Lw_fill_10 (fun E3 σ4 => kx_if (kx_catch (hs := hs_Lw_fill) C (hk_Lw_fill 10 (by decide) (by decide)) (by decide +kernel) (Or.inl ⟨d_Lw_fill_16, rfl⟩) (by decide) rfl (kw_iconst (v := 1) C d_Lw_fill_18 (by decide) (kw_iret C Ce rfl (by simp) (fun _ _ => rfl) (Nat.le_of_ble_eq_true rfl) (Nat.le_of_ble_eq_true rfl) rfl d_Lw_fill_19))) (fun _ => kx_if (kx_catch (hs := hs_Lw_fill) C (hk_Lw_fill 10 (by decide) (by decide)) (by decide +kernel) (Or.inl ⟨d_Lw_fill_20, rfl⟩) (by decide) rfl (kw_iconst (v := 2) C d_Lw_fill_22 (by decide) (kw_iret C Ce rfl (by simp) (fun _ _ => rfl) (Nat.le_of_ble_eq_true rfl) (Nat.le_of_ble_eq_true rfl) rfl d_Lw_fill_23))) (fun _ => kx_if (kx_catch (hs := hs_Lw_fill) C (hk_Lw_fill 10 (by decide) (by decide)) (by decide +kernel) (Or.inl ⟨d_Lw_fill_24, rfl⟩) (by decide) rfl (kw_iconst (v := 3) C d_Lw_fill_26 (by decide) (kw_iret C Ce rfl (by simp) (fun _ _ => rfl) (Nat.le_of_ble_eq_true rfl) (Nat.le_of_ble_eq_true rfl) rfl d_Lw_fill_27))) (fun _ => kx_none)))) (fun x2 σ1 => ?_)
  refine kw_goto (tgt := 28) C d_Lw_fill_13 (by decide) ?_
  refine kw_iconst (v := 0) C d_Lw_fill_28 (by decide) ?_
  exact kw_iret C Ce rfl (by simp) (fun _ _ => rfl) (Nat.le_of_ble_eq_true rfl) (Nat.le_of_ble_eq_true rfl) rfl d_Lw_fill_29
/-! Lw_colour -/
def rm_Lw_colour : Room := { frames := 8, cells := 3, slots := 18, locals := 132 }
def hs_Lw_colour : List kw_H := [((0, 12, 15, 29), "java/lang/IllegalStateException"), ((0, 12, 19, 19), "java/lang/IllegalArgumentException"), ((0, 12, 23, 13), "java/lang/UnsupportedOperationException")]
theorem w_Lw_colour : Cond.codeWith y_Lw_colour method_10_code 6 (some .int) (hs_Lw_colour.map Prod.fst) ∈ kw_Ts := (kw_m4 (i := 181) (by decide +kernel) (by decide +kernel))
theorem hk_Lw_colour (pc : Nat) (h1 : 0 ≤ pc) (h2 : pc < 12) : kw_hok "PictureFileLaw" pc hs_Lw_colour := List.forall_mem_cons.mpr ⟨⟨⟨h1, h2⟩, by decide, (kw_m4 (i := 101) (by decide +kernel) (by decide +kernel))⟩, List.forall_mem_cons.mpr ⟨⟨⟨h1, h2⟩, by decide, (kw_m4 (i := 67) (by decide +kernel) (by decide +kernel))⟩, List.forall_mem_cons.mpr ⟨⟨⟨h1, h2⟩, by decide, (kw_m3 (i := 222) (by decide +kernel) (by decide +kernel))⟩, fun _ h => nomatch h⟩⟩⟩
def F_Lw_colour (n : Nat) (r0 : Nat) (a1 : Int32) (a2 : Int32) (a3 : Int32) (r4 : Nat) (σ : Mm) : Option (Int32 × Mm) :=
kf_h (F_PF_colour n r0 a1 a2 a3 σ) (fun E3 σ4 => if E3 = "java/lang/IllegalStateException" then some (1, σ4) else if E3 = "java/lang/IllegalArgumentException" then some (2, σ4) else if E3 = "java/lang/UnsupportedOperationException" then some (3, σ4) else none) fun x2 σ1 =>
kf_in 0 (mm_kd r4).2.2 <| kf_let (pK σ1 r4 (0 : Int32).toNatClampNeg x2.toInt64) fun σ5 =>
some (0, σ5)
theorem d_Lw_colour_0 : decode method_10_code 0 = .ok (.aload 4, 2) := by decide +kernel
theorem d_Lw_colour_2 : decode method_10_code 2 = .ok (.iconst 0, 1) := by decide +kernel
theorem d_Lw_colour_3 : decode method_10_code 3 = .ok (.aload_n 0, 1) := by decide +kernel
theorem d_Lw_colour_4 : decode method_10_code 4 = .ok (.iload_n 1, 1) := by decide +kernel
theorem d_Lw_colour_5 : decode method_10_code 5 = .ok (.iload_n 2, 1) := by decide +kernel
theorem d_Lw_colour_6 : decode method_10_code 6 = .ok (.iload_n 3, 1) := by decide +kernel
theorem d_Lw_colour_7 : decode method_10_code 7 = .ok (.invokevirtual 45, 3) := by decide +kernel
theorem d_Lw_colour_10 : decode method_10_code 10 = .ok (.i2l, 1) := by decide +kernel
theorem d_Lw_colour_11 : decode method_10_code 11 = .ok (.lastore, 1) := by decide +kernel
theorem d_Lw_colour_12 : decode method_10_code 12 = .ok (.goto 15, 3) := by decide +kernel
theorem d_Lw_colour_15 : decode method_10_code 15 = .ok (.astore 5, 2) := by decide +kernel
theorem d_Lw_colour_17 : decode method_10_code 17 = .ok (.iconst 1, 1) := by decide +kernel
theorem d_Lw_colour_18 : decode method_10_code 18 = .ok (.ireturn, 1) := by decide +kernel
theorem d_Lw_colour_19 : decode method_10_code 19 = .ok (.astore 5, 2) := by decide +kernel
theorem d_Lw_colour_21 : decode method_10_code 21 = .ok (.iconst 2, 1) := by decide +kernel
theorem d_Lw_colour_22 : decode method_10_code 22 = .ok (.ireturn, 1) := by decide +kernel
theorem d_Lw_colour_23 : decode method_10_code 23 = .ok (.astore 5, 2) := by decide +kernel
theorem d_Lw_colour_25 : decode method_10_code 25 = .ok (.iconst 3, 1) := by decide +kernel
theorem d_Lw_colour_26 : decode method_10_code 26 = .ok (.ireturn, 1) := by decide +kernel
theorem d_Lw_colour_27 : decode method_10_code 27 = .ok (.iconst 0, 1) := by decide +kernel
theorem d_Lw_colour_28 : decode method_10_code 28 = .ok (.ireturn, 1) := by decide +kernel
set_option maxRecDepth 100000 in
set_option maxHeartbeats 4000000 in
theorem c_Lw_colour {l0 : Launch} (hl : l0.stackTraces = false) (n : Nat) (ids : List Nat) {r0 : Nat} (hr0 : mm_ok ids r0 1 0) {r4 : Nat} (hr4 : mm_ok ids r4 4 0) (a1 : Int32) (a2 : Int32) (a3 : Int32) (σ : Mm) : kw_C l0 y_Lw_colour (Cond.codeWith y_Lw_colour method_10_code 6 (some .int) (hs_Lw_colour.map Prod.fst) :: kw_Ts) rm_Lw_colour kw_oi ids [] [.ref r0, .int a1, .int a2, .int a3, .ref r4] σ (F_Lw_colour n r0 a1 a2 a3 r4 σ) := by
  refine kw_startH (hs := hs_Lw_colour) (L0 := [some (.ref r0), some (.int a1), some (.int a2), some (.int a3), some (.ref r4), none]) hl (by decide +kernel) (Nat.le_of_ble_eq_true rfl) rfl (fun Γ ad C Ce => ?_)
  unfold F_Lw_colour
  refine kw_aload C d_Lw_colour_0 rfl ?_
  refine kw_iconst (v := 0) C d_Lw_colour_2 (by decide) ?_
  refine kw_aload_n C d_Lw_colour_3 rfl ?_
  refine kw_iload_n C d_Lw_colour_4 rfl ?_
  refine kw_iload_n C d_Lw_colour_5 rfl ?_
  refine kw_iload_n C d_Lw_colour_6 rfl ?_
  refine kw_callVhi (As := [.int a1, .int a2, .int a3]) (cl' := 3) (sl' := 18) C (c_PF_colour hl n ids hr0 a1 a2 a3 σ) mi_Lw_45 v_PF_colour ⟨_, _, rfl⟩ hr0 ⟨Nat.le_of_ble_eq_true rfl, Nat.le_of_ble_eq_true rfl⟩ (Nat.le_of_ble_eq_true rfl) ⟨Nat.le_of_ble_eq_true rfl, Nat.le_of_ble_eq_true rfl⟩ ⟨rfl, rfl⟩ rfl d_Lw_colour_7 (fun E3 σ4 => kx_if (kx_catch (hs := hs_Lw_colour) C (hk_Lw_colour 7 (by decide) (by decide)) (by decide +kernel) (Or.inl ⟨d_Lw_colour_15, rfl⟩) (by decide) rfl (kw_iconst (v := 1) C d_Lw_colour_17 (by decide) (kw_iret C Ce rfl (by simp) (fun _ _ => rfl) (Nat.le_of_ble_eq_true rfl) (Nat.le_of_ble_eq_true rfl) rfl d_Lw_colour_18))) (fun _ => kx_if (kx_catch (hs := hs_Lw_colour) C (hk_Lw_colour 7 (by decide) (by decide)) (by decide +kernel) (Or.inl ⟨d_Lw_colour_19, rfl⟩) (by decide) rfl (kw_iconst (v := 2) C d_Lw_colour_21 (by decide) (kw_iret C Ce rfl (by simp) (fun _ _ => rfl) (Nat.le_of_ble_eq_true rfl) (Nat.le_of_ble_eq_true rfl) rfl d_Lw_colour_22))) (fun _ => kx_if (kx_catch (hs := hs_Lw_colour) C (hk_Lw_colour 7 (by decide) (by decide)) (by decide +kernel) (Or.inl ⟨d_Lw_colour_23, rfl⟩) (by decide) rfl (kw_iconst (v := 3) C d_Lw_colour_25 (by decide) (kw_iret C Ce rfl (by simp) (fun _ _ => rfl) (Nat.le_of_ble_eq_true rfl) (Nat.le_of_ble_eq_true rfl) rfl d_Lw_colour_26))) (fun _ => kx_none)))) (fun x2 σ1 => ?_)
  refine kw_i2l C d_Lw_colour_10 ?_
  refine kw_last C hr4 d_Lw_colour_11 (fun σ5 => ?_)
  refine kw_goto (tgt := 27) C d_Lw_colour_12 (by decide) ?_
  refine kw_iconst (v := 0) C d_Lw_colour_27 (by decide) ?_
  exact kw_iret C Ce rfl (by simp) (fun _ _ => rfl) (Nat.le_of_ble_eq_true rfl) (Nat.le_of_ble_eq_true rfl) rfl d_Lw_colour_28
/-! Lw_ofColour -/
def rm_Lw_ofColour : Room := { frames := 8, cells := 2, slots := 12, locals := 131 }
def hs_Lw_ofColour : List kw_H := [((0, 10, 13, 29), "java/lang/IllegalStateException"), ((0, 10, 17, 35), "java/lang/IndexOutOfBoundsException")]
theorem w_Lw_ofColour : Cond.codeWith y_Lw_ofColour method_11_code 5 (some .int) (hs_Lw_ofColour.map Prod.fst) ∈ kw_Ts := (kw_m4 (i := 190) (by decide +kernel) (by decide +kernel))
theorem hk_Lw_ofColour (pc : Nat) (h1 : 0 ≤ pc) (h2 : pc < 10) : kw_hok "PictureFileLaw" pc hs_Lw_ofColour := List.forall_mem_cons.mpr ⟨⟨⟨h1, h2⟩, by decide, (kw_m4 (i := 101) (by decide +kernel) (by decide +kernel))⟩, List.forall_mem_cons.mpr ⟨⟨⟨h1, h2⟩, by decide, (kw_m4 (i := 128) (by decide +kernel) (by decide +kernel))⟩, fun _ h => nomatch h⟩⟩
def F_Lw_ofColour (n : Nat) (r0 : Nat) (a1 : Int32) (a2 : Int32) (r3 : Nat) (σ : Mm) : Option (Int32 × Mm) :=
kf_h (F_PF_ofColour n r0 a1 a2 σ) (fun E3 σ4 => if E3 = "java/lang/IllegalStateException" then some (1, σ4) else if E3 = "java/lang/IndexOutOfBoundsException" then some (2, σ4) else none) fun x2 σ1 =>
kf_in 0 (mm_kd r3).2.2 <| kf_let (pK σ1 r3 (0 : Int32).toNatClampNeg x2.toInt64) fun σ5 =>
some (0, σ5)
theorem d_Lw_ofColour_0 : decode method_11_code 0 = .ok (.aload_n 3, 1) := by decide +kernel
theorem d_Lw_ofColour_1 : decode method_11_code 1 = .ok (.iconst 0, 1) := by decide +kernel
theorem d_Lw_ofColour_2 : decode method_11_code 2 = .ok (.aload_n 0, 1) := by decide +kernel
theorem d_Lw_ofColour_3 : decode method_11_code 3 = .ok (.iload_n 1, 1) := by decide +kernel
theorem d_Lw_ofColour_4 : decode method_11_code 4 = .ok (.iload_n 2, 1) := by decide +kernel
theorem d_Lw_ofColour_5 : decode method_11_code 5 = .ok (.invokevirtual 48, 3) := by decide +kernel
theorem d_Lw_ofColour_8 : decode method_11_code 8 = .ok (.i2l, 1) := by decide +kernel
theorem d_Lw_ofColour_9 : decode method_11_code 9 = .ok (.lastore, 1) := by decide +kernel
theorem d_Lw_ofColour_10 : decode method_11_code 10 = .ok (.goto 11, 3) := by decide +kernel
theorem d_Lw_ofColour_13 : decode method_11_code 13 = .ok (.astore 4, 2) := by decide +kernel
theorem d_Lw_ofColour_15 : decode method_11_code 15 = .ok (.iconst 1, 1) := by decide +kernel
theorem d_Lw_ofColour_16 : decode method_11_code 16 = .ok (.ireturn, 1) := by decide +kernel
theorem d_Lw_ofColour_17 : decode method_11_code 17 = .ok (.astore 4, 2) := by decide +kernel
theorem d_Lw_ofColour_19 : decode method_11_code 19 = .ok (.iconst 2, 1) := by decide +kernel
theorem d_Lw_ofColour_20 : decode method_11_code 20 = .ok (.ireturn, 1) := by decide +kernel
theorem d_Lw_ofColour_21 : decode method_11_code 21 = .ok (.iconst 0, 1) := by decide +kernel
theorem d_Lw_ofColour_22 : decode method_11_code 22 = .ok (.ireturn, 1) := by decide +kernel
set_option maxRecDepth 100000 in
set_option maxHeartbeats 4000000 in
theorem c_Lw_ofColour {l0 : Launch} (hl : l0.stackTraces = false) (n : Nat) (ids : List Nat) {r0 : Nat} (hr0 : mm_ok ids r0 1 0) {r3 : Nat} (hr3 : mm_ok ids r3 4 0) (a1 : Int32) (a2 : Int32) (σ : Mm) : kw_C l0 y_Lw_ofColour (Cond.codeWith y_Lw_ofColour method_11_code 5 (some .int) (hs_Lw_ofColour.map Prod.fst) :: kw_Ts) rm_Lw_ofColour kw_oi ids [] [.ref r0, .int a1, .int a2, .ref r3] σ (F_Lw_ofColour n r0 a1 a2 r3 σ) := by
  refine kw_startH (hs := hs_Lw_ofColour) (L0 := [some (.ref r0), some (.int a1), some (.int a2), some (.ref r3), none]) hl (by decide +kernel) (Nat.le_of_ble_eq_true rfl) rfl (fun Γ ad C Ce => ?_)
  unfold F_Lw_ofColour
  refine kw_aload_n C d_Lw_ofColour_0 rfl ?_
  refine kw_iconst (v := 0) C d_Lw_ofColour_1 (by decide) ?_
  refine kw_aload_n C d_Lw_ofColour_2 rfl ?_
  refine kw_iload_n C d_Lw_ofColour_3 rfl ?_
  refine kw_iload_n C d_Lw_ofColour_4 rfl ?_
  refine kw_callVhi (As := [.int a1, .int a2]) (cl' := 2) (sl' := 12) C (c_PF_ofColour hl n ids hr0 a1 a2 σ) mi_Lw_48 v_PF_ofColour ⟨_, _, rfl⟩ hr0 ⟨Nat.le_of_ble_eq_true rfl, Nat.le_of_ble_eq_true rfl⟩ (Nat.le_of_ble_eq_true rfl) ⟨Nat.le_of_ble_eq_true rfl, Nat.le_of_ble_eq_true rfl⟩ ⟨rfl, rfl⟩ rfl d_Lw_ofColour_5 (fun E3 σ4 => kx_if (kx_catch (hs := hs_Lw_ofColour) C (hk_Lw_ofColour 5 (by decide) (by decide)) (by decide +kernel) (Or.inl ⟨d_Lw_ofColour_13, rfl⟩) (by decide) rfl (kw_iconst (v := 1) C d_Lw_ofColour_15 (by decide) (kw_iret C Ce rfl (by simp) (fun _ _ => rfl) (Nat.le_of_ble_eq_true rfl) (Nat.le_of_ble_eq_true rfl) rfl d_Lw_ofColour_16))) (fun _ => kx_if (kx_catch (hs := hs_Lw_ofColour) C (hk_Lw_ofColour 5 (by decide) (by decide)) (by decide +kernel) (Or.inl ⟨d_Lw_ofColour_17, rfl⟩) (by decide) rfl (kw_iconst (v := 2) C d_Lw_ofColour_19 (by decide) (kw_iret C Ce rfl (by simp) (fun _ _ => rfl) (Nat.le_of_ble_eq_true rfl) (Nat.le_of_ble_eq_true rfl) rfl d_Lw_ofColour_20))) (fun _ => kx_none))) (fun x2 σ1 => ?_)
  refine kw_i2l C d_Lw_ofColour_8 ?_
  refine kw_last C hr3 d_Lw_ofColour_9 (fun σ5 => ?_)
  refine kw_goto (tgt := 21) C d_Lw_ofColour_10 (by decide) ?_
  refine kw_iconst (v := 0) C d_Lw_ofColour_21 (by decide) ?_
  exact kw_iret C Ce rfl (by simp) (fun _ _ => rfl) (Nat.le_of_ble_eq_true rfl) (Nat.le_of_ble_eq_true rfl) rfl d_Lw_ofColour_22
/-! Lw_thin -/
def rm_Lw_thin : Room := { frames := 8, cells := 3, slots := 18, locals := 132 }
def hs_Lw_thin : List kw_H := [((0, 12, 15, 29), "java/lang/IllegalStateException"), ((0, 12, 19, 19), "java/lang/IllegalArgumentException"), ((0, 12, 23, 13), "java/lang/UnsupportedOperationException")]
theorem w_Lw_thin : Cond.codeWith y_Lw_thin method_12_code 6 (some .int) (hs_Lw_thin.map Prod.fst) ∈ kw_Ts := (kw_m4 (i := 197) (by decide +kernel) (by decide +kernel))
theorem hk_Lw_thin (pc : Nat) (h1 : 0 ≤ pc) (h2 : pc < 12) : kw_hok "PictureFileLaw" pc hs_Lw_thin := List.forall_mem_cons.mpr ⟨⟨⟨h1, h2⟩, by decide, (kw_m4 (i := 101) (by decide +kernel) (by decide +kernel))⟩, List.forall_mem_cons.mpr ⟨⟨⟨h1, h2⟩, by decide, (kw_m4 (i := 67) (by decide +kernel) (by decide +kernel))⟩, List.forall_mem_cons.mpr ⟨⟨⟨h1, h2⟩, by decide, (kw_m3 (i := 222) (by decide +kernel) (by decide +kernel))⟩, fun _ h => nomatch h⟩⟩⟩
def F_Lw_thin (n : Nat) (r0 : Nat) (a1 : Int32) (a2 : Int32) (a3 : Int32) (r4 : Nat) (σ : Mm) : Option (Int32 × Mm) :=
kf_h (F_PF_thin n r0 a1 a2 a3 σ) (fun E3 σ4 => if E3 = "java/lang/IllegalStateException" then some (1, σ4) else if E3 = "java/lang/IllegalArgumentException" then some (2, σ4) else if E3 = "java/lang/UnsupportedOperationException" then some (3, σ4) else none) fun x2 σ1 =>
kf_in 0 (mm_kd r4).2.2 <| kf_let (pK σ1 r4 (0 : Int32).toNatClampNeg x2.toInt64) fun σ5 =>
some (0, σ5)
theorem d_Lw_thin_0 : decode method_12_code 0 = .ok (.aload 4, 2) := by decide +kernel
theorem d_Lw_thin_2 : decode method_12_code 2 = .ok (.iconst 0, 1) := by decide +kernel
theorem d_Lw_thin_3 : decode method_12_code 3 = .ok (.aload_n 0, 1) := by decide +kernel
theorem d_Lw_thin_4 : decode method_12_code 4 = .ok (.iload_n 1, 1) := by decide +kernel
theorem d_Lw_thin_5 : decode method_12_code 5 = .ok (.iload_n 2, 1) := by decide +kernel
theorem d_Lw_thin_6 : decode method_12_code 6 = .ok (.iload_n 3, 1) := by decide +kernel
theorem d_Lw_thin_7 : decode method_12_code 7 = .ok (.invokevirtual 52, 3) := by decide +kernel
theorem d_Lw_thin_10 : decode method_12_code 10 = .ok (.i2l, 1) := by decide +kernel
theorem d_Lw_thin_11 : decode method_12_code 11 = .ok (.lastore, 1) := by decide +kernel
theorem d_Lw_thin_12 : decode method_12_code 12 = .ok (.goto 15, 3) := by decide +kernel
theorem d_Lw_thin_15 : decode method_12_code 15 = .ok (.astore 5, 2) := by decide +kernel
theorem d_Lw_thin_17 : decode method_12_code 17 = .ok (.iconst 1, 1) := by decide +kernel
theorem d_Lw_thin_18 : decode method_12_code 18 = .ok (.ireturn, 1) := by decide +kernel
theorem d_Lw_thin_19 : decode method_12_code 19 = .ok (.astore 5, 2) := by decide +kernel
theorem d_Lw_thin_21 : decode method_12_code 21 = .ok (.iconst 2, 1) := by decide +kernel
theorem d_Lw_thin_22 : decode method_12_code 22 = .ok (.ireturn, 1) := by decide +kernel
theorem d_Lw_thin_23 : decode method_12_code 23 = .ok (.astore 5, 2) := by decide +kernel
theorem d_Lw_thin_25 : decode method_12_code 25 = .ok (.iconst 3, 1) := by decide +kernel
theorem d_Lw_thin_26 : decode method_12_code 26 = .ok (.ireturn, 1) := by decide +kernel
theorem d_Lw_thin_27 : decode method_12_code 27 = .ok (.iconst 0, 1) := by decide +kernel
theorem d_Lw_thin_28 : decode method_12_code 28 = .ok (.ireturn, 1) := by decide +kernel
set_option maxRecDepth 100000 in
set_option maxHeartbeats 4000000 in
theorem c_Lw_thin {l0 : Launch} (hl : l0.stackTraces = false) (n : Nat) (ids : List Nat) {r0 : Nat} (hr0 : mm_ok ids r0 1 0) {r4 : Nat} (hr4 : mm_ok ids r4 4 0) (a1 : Int32) (a2 : Int32) (a3 : Int32) (σ : Mm) : kw_C l0 y_Lw_thin (Cond.codeWith y_Lw_thin method_12_code 6 (some .int) (hs_Lw_thin.map Prod.fst) :: kw_Ts) rm_Lw_thin kw_oi ids [] [.ref r0, .int a1, .int a2, .int a3, .ref r4] σ (F_Lw_thin n r0 a1 a2 a3 r4 σ) := by
  refine kw_startH (hs := hs_Lw_thin) (L0 := [some (.ref r0), some (.int a1), some (.int a2), some (.int a3), some (.ref r4), none]) hl (by decide +kernel) (Nat.le_of_ble_eq_true rfl) rfl (fun Γ ad C Ce => ?_)
  unfold F_Lw_thin
  refine kw_aload C d_Lw_thin_0 rfl ?_
  refine kw_iconst (v := 0) C d_Lw_thin_2 (by decide) ?_
  refine kw_aload_n C d_Lw_thin_3 rfl ?_
  refine kw_iload_n C d_Lw_thin_4 rfl ?_
  refine kw_iload_n C d_Lw_thin_5 rfl ?_
  refine kw_iload_n C d_Lw_thin_6 rfl ?_
  refine kw_callVhi (As := [.int a1, .int a2, .int a3]) (cl' := 3) (sl' := 18) C (c_PF_thin hl n ids hr0 a1 a2 a3 σ) mi_Lw_52 v_PF_thin ⟨_, _, rfl⟩ hr0 ⟨Nat.le_of_ble_eq_true rfl, Nat.le_of_ble_eq_true rfl⟩ (Nat.le_of_ble_eq_true rfl) ⟨Nat.le_of_ble_eq_true rfl, Nat.le_of_ble_eq_true rfl⟩ ⟨rfl, rfl⟩ rfl d_Lw_thin_7 (fun E3 σ4 => kx_if (kx_catch (hs := hs_Lw_thin) C (hk_Lw_thin 7 (by decide) (by decide)) (by decide +kernel) (Or.inl ⟨d_Lw_thin_15, rfl⟩) (by decide) rfl (kw_iconst (v := 1) C d_Lw_thin_17 (by decide) (kw_iret C Ce rfl (by simp) (fun _ _ => rfl) (Nat.le_of_ble_eq_true rfl) (Nat.le_of_ble_eq_true rfl) rfl d_Lw_thin_18))) (fun _ => kx_if (kx_catch (hs := hs_Lw_thin) C (hk_Lw_thin 7 (by decide) (by decide)) (by decide +kernel) (Or.inl ⟨d_Lw_thin_19, rfl⟩) (by decide) rfl (kw_iconst (v := 2) C d_Lw_thin_21 (by decide) (kw_iret C Ce rfl (by simp) (fun _ _ => rfl) (Nat.le_of_ble_eq_true rfl) (Nat.le_of_ble_eq_true rfl) rfl d_Lw_thin_22))) (fun _ => kx_if (kx_catch (hs := hs_Lw_thin) C (hk_Lw_thin 7 (by decide) (by decide)) (by decide +kernel) (Or.inl ⟨d_Lw_thin_23, rfl⟩) (by decide) rfl (kw_iconst (v := 3) C d_Lw_thin_25 (by decide) (kw_iret C Ce rfl (by simp) (fun _ _ => rfl) (Nat.le_of_ble_eq_true rfl) (Nat.le_of_ble_eq_true rfl) rfl d_Lw_thin_26))) (fun _ => kx_none)))) (fun x2 σ1 => ?_)
  refine kw_i2l C d_Lw_thin_10 ?_
  refine kw_last C hr4 d_Lw_thin_11 (fun σ5 => ?_)
  refine kw_goto (tgt := 27) C d_Lw_thin_12 (by decide) ?_
  refine kw_iconst (v := 0) C d_Lw_thin_27 (by decide) ?_
  exact kw_iret C Ce rfl (by simp) (fun _ _ => rfl) (Nat.le_of_ble_eq_true rfl) (Nat.le_of_ble_eq_true rfl) rfl d_Lw_thin_28
/-! Lw_ofThin -/
def rm_Lw_ofThin : Room := { frames := 8, cells := 2, slots := 12, locals := 130 }
def hs_Lw_ofThin : List kw_H := [((0, 9, 12, 29), "java/lang/IllegalStateException"), ((0, 9, 15, 35), "java/lang/IndexOutOfBoundsException")]
theorem w_Lw_ofThin : Cond.codeWith y_Lw_ofThin method_13_code 4 (some .int) (hs_Lw_ofThin.map Prod.fst) ∈ kw_Ts := (kw_m4 (i := 209) (by decide +kernel) (by decide +kernel))
theorem hk_Lw_ofThin (pc : Nat) (h1 : 0 ≤ pc) (h2 : pc < 9) : kw_hok "PictureFileLaw" pc hs_Lw_ofThin := List.forall_mem_cons.mpr ⟨⟨⟨h1, h2⟩, by decide, (kw_m4 (i := 101) (by decide +kernel) (by decide +kernel))⟩, List.forall_mem_cons.mpr ⟨⟨⟨h1, h2⟩, by decide, (kw_m4 (i := 128) (by decide +kernel) (by decide +kernel))⟩, fun _ h => nomatch h⟩⟩
def F_Lw_ofThin (n : Nat) (r0 : Nat) (a1 : Int32) (r2 : Nat) (σ : Mm) : Option (Int32 × Mm) :=
kf_h (F_PF_ofThin n r0 a1 σ) (fun E3 σ4 => if E3 = "java/lang/IllegalStateException" then some (1, σ4) else if E3 = "java/lang/IndexOutOfBoundsException" then some (2, σ4) else none) fun x2 σ1 =>
kf_in 0 (mm_kd r2).2.2 <| kf_let (pK σ1 r2 (0 : Int32).toNatClampNeg x2.toInt64) fun σ5 =>
some (0, σ5)
theorem d_Lw_ofThin_0 : decode method_13_code 0 = .ok (.aload_n 2, 1) := by decide +kernel
theorem d_Lw_ofThin_1 : decode method_13_code 1 = .ok (.iconst 0, 1) := by decide +kernel
theorem d_Lw_ofThin_2 : decode method_13_code 2 = .ok (.aload_n 0, 1) := by decide +kernel
theorem d_Lw_ofThin_3 : decode method_13_code 3 = .ok (.iload_n 1, 1) := by decide +kernel
theorem d_Lw_ofThin_4 : decode method_13_code 4 = .ok (.invokevirtual 55, 3) := by decide +kernel
theorem d_Lw_ofThin_7 : decode method_13_code 7 = .ok (.i2l, 1) := by decide +kernel
theorem d_Lw_ofThin_8 : decode method_13_code 8 = .ok (.lastore, 1) := by decide +kernel
theorem d_Lw_ofThin_9 : decode method_13_code 9 = .ok (.goto 9, 3) := by decide +kernel
theorem d_Lw_ofThin_12 : decode method_13_code 12 = .ok (.astore_n 3, 1) := by decide +kernel
theorem d_Lw_ofThin_13 : decode method_13_code 13 = .ok (.iconst 1, 1) := by decide +kernel
theorem d_Lw_ofThin_14 : decode method_13_code 14 = .ok (.ireturn, 1) := by decide +kernel
theorem d_Lw_ofThin_15 : decode method_13_code 15 = .ok (.astore_n 3, 1) := by decide +kernel
theorem d_Lw_ofThin_16 : decode method_13_code 16 = .ok (.iconst 2, 1) := by decide +kernel
theorem d_Lw_ofThin_17 : decode method_13_code 17 = .ok (.ireturn, 1) := by decide +kernel
theorem d_Lw_ofThin_18 : decode method_13_code 18 = .ok (.iconst 0, 1) := by decide +kernel
theorem d_Lw_ofThin_19 : decode method_13_code 19 = .ok (.ireturn, 1) := by decide +kernel
set_option maxRecDepth 100000 in
set_option maxHeartbeats 4000000 in
theorem c_Lw_ofThin {l0 : Launch} (hl : l0.stackTraces = false) (n : Nat) (ids : List Nat) {r0 : Nat} (hr0 : mm_ok ids r0 1 0) {r2 : Nat} (hr2 : mm_ok ids r2 4 0) (a1 : Int32) (σ : Mm) : kw_C l0 y_Lw_ofThin (Cond.codeWith y_Lw_ofThin method_13_code 4 (some .int) (hs_Lw_ofThin.map Prod.fst) :: kw_Ts) rm_Lw_ofThin kw_oi ids [] [.ref r0, .int a1, .ref r2] σ (F_Lw_ofThin n r0 a1 r2 σ) := by
  refine kw_startH (hs := hs_Lw_ofThin) (L0 := [some (.ref r0), some (.int a1), some (.ref r2), none]) hl (by decide +kernel) (Nat.le_of_ble_eq_true rfl) rfl (fun Γ ad C Ce => ?_)
  unfold F_Lw_ofThin
  refine kw_aload_n C d_Lw_ofThin_0 rfl ?_
  refine kw_iconst (v := 0) C d_Lw_ofThin_1 (by decide) ?_
  refine kw_aload_n C d_Lw_ofThin_2 rfl ?_
  refine kw_iload_n C d_Lw_ofThin_3 rfl ?_
  refine kw_callVhi (As := [.int a1]) (cl' := 2) (sl' := 12) C (c_PF_ofThin hl n ids hr0 a1 σ) mi_Lw_55 v_PF_ofThin ⟨_, _, rfl⟩ hr0 ⟨Nat.le_of_ble_eq_true rfl, Nat.le_of_ble_eq_true rfl⟩ (Nat.le_of_ble_eq_true rfl) ⟨Nat.le_of_ble_eq_true rfl, Nat.le_of_ble_eq_true rfl⟩ ⟨rfl, rfl⟩ rfl d_Lw_ofThin_4 (fun E3 σ4 => kx_if (kx_catch (hs := hs_Lw_ofThin) C (hk_Lw_ofThin 4 (by decide) (by decide)) (by decide +kernel) (Or.inr ⟨3, rfl, d_Lw_ofThin_12, rfl⟩) (by decide) rfl (kw_iconst (v := 1) C d_Lw_ofThin_13 (by decide) (kw_iret C Ce rfl (by simp) (fun _ _ => rfl) (Nat.le_of_ble_eq_true rfl) (Nat.le_of_ble_eq_true rfl) rfl d_Lw_ofThin_14))) (fun _ => kx_if (kx_catch (hs := hs_Lw_ofThin) C (hk_Lw_ofThin 4 (by decide) (by decide)) (by decide +kernel) (Or.inr ⟨3, rfl, d_Lw_ofThin_15, rfl⟩) (by decide) rfl (kw_iconst (v := 2) C d_Lw_ofThin_16 (by decide) (kw_iret C Ce rfl (by simp) (fun _ _ => rfl) (Nat.le_of_ble_eq_true rfl) (Nat.le_of_ble_eq_true rfl) rfl d_Lw_ofThin_17))) (fun _ => kx_none))) (fun x2 σ1 => ?_)
  refine kw_i2l C d_Lw_ofThin_7 ?_
  refine kw_last C hr2 d_Lw_ofThin_8 (fun σ5 => ?_)
  refine kw_goto (tgt := 18) C d_Lw_ofThin_9 (by decide) ?_
  refine kw_iconst (v := 0) C d_Lw_ofThin_18 (by decide) ?_
  exact kw_iret C Ce rfl (by simp) (fun _ _ => rfl) (Nat.le_of_ble_eq_true rfl) (Nat.le_of_ble_eq_true rfl) rfl d_Lw_ofThin_19
/-! Lw_filter -/
def rm_Lw_filter : Room := { frames := 8, cells := 2, slots := 12, locals := 149 }
def hs_Lw_filter : List kw_H := [((0, 9, 12, 29), "java/lang/IllegalStateException"), ((0, 9, 15, 35), "java/lang/IndexOutOfBoundsException")]
theorem w_Lw_filter : Cond.codeWith y_Lw_filter method_14_code 4 (some .int) (hs_Lw_filter.map Prod.fst) ∈ kw_Ts := (kw_m4 (i := 216) (by decide +kernel) (by decide +kernel))
theorem hk_Lw_filter (pc : Nat) (h1 : 0 ≤ pc) (h2 : pc < 9) : kw_hok "PictureFileLaw" pc hs_Lw_filter := List.forall_mem_cons.mpr ⟨⟨⟨h1, h2⟩, by decide, (kw_m4 (i := 101) (by decide +kernel) (by decide +kernel))⟩, List.forall_mem_cons.mpr ⟨⟨⟨h1, h2⟩, by decide, (kw_m4 (i := 128) (by decide +kernel) (by decide +kernel))⟩, fun _ h => nomatch h⟩⟩
def F_Lw_filter (n : Nat) (r0 : Nat) (a1 : Int32) (r2 : Nat) (σ : Mm) : Option (Int32 × Mm) :=
kf_h (F_PF_filter n r0 a1 σ) (fun E3 σ4 => if E3 = "java/lang/IllegalStateException" then some (1, σ4) else if E3 = "java/lang/IndexOutOfBoundsException" then some (2, σ4) else none) fun x2 σ1 =>
kf_in 0 (mm_kd r2).2.2 <| kf_let (pK σ1 r2 (0 : Int32).toNatClampNeg x2.toInt64) fun σ5 =>
some (0, σ5)
theorem d_Lw_filter_0 : decode method_14_code 0 = .ok (.aload_n 2, 1) := by decide +kernel
theorem d_Lw_filter_1 : decode method_14_code 1 = .ok (.iconst 0, 1) := by decide +kernel
theorem d_Lw_filter_2 : decode method_14_code 2 = .ok (.aload_n 0, 1) := by decide +kernel
theorem d_Lw_filter_3 : decode method_14_code 3 = .ok (.iload_n 1, 1) := by decide +kernel
theorem d_Lw_filter_4 : decode method_14_code 4 = .ok (.invokevirtual 58, 3) := by decide +kernel
theorem d_Lw_filter_7 : decode method_14_code 7 = .ok (.i2l, 1) := by decide +kernel
theorem d_Lw_filter_8 : decode method_14_code 8 = .ok (.lastore, 1) := by decide +kernel
theorem d_Lw_filter_9 : decode method_14_code 9 = .ok (.goto 9, 3) := by decide +kernel
theorem d_Lw_filter_12 : decode method_14_code 12 = .ok (.astore_n 3, 1) := by decide +kernel
theorem d_Lw_filter_13 : decode method_14_code 13 = .ok (.iconst 1, 1) := by decide +kernel
theorem d_Lw_filter_14 : decode method_14_code 14 = .ok (.ireturn, 1) := by decide +kernel
theorem d_Lw_filter_15 : decode method_14_code 15 = .ok (.astore_n 3, 1) := by decide +kernel
theorem d_Lw_filter_16 : decode method_14_code 16 = .ok (.iconst 2, 1) := by decide +kernel
theorem d_Lw_filter_17 : decode method_14_code 17 = .ok (.ireturn, 1) := by decide +kernel
theorem d_Lw_filter_18 : decode method_14_code 18 = .ok (.iconst 0, 1) := by decide +kernel
theorem d_Lw_filter_19 : decode method_14_code 19 = .ok (.ireturn, 1) := by decide +kernel
set_option maxRecDepth 100000 in
set_option maxHeartbeats 4000000 in
theorem c_Lw_filter {l0 : Launch} (hl : l0.stackTraces = false) (n : Nat) (ids : List Nat) {r0 : Nat} (hr0 : mm_ok ids r0 1 0) {r2 : Nat} (hr2 : mm_ok ids r2 4 0) (a1 : Int32) (σ : Mm) : kw_C l0 y_Lw_filter (Cond.codeWith y_Lw_filter method_14_code 4 (some .int) (hs_Lw_filter.map Prod.fst) :: kw_Ts) rm_Lw_filter kw_oi ids [] [.ref r0, .int a1, .ref r2] σ (F_Lw_filter n r0 a1 r2 σ) := by
  refine kw_startH (hs := hs_Lw_filter) (L0 := [some (.ref r0), some (.int a1), some (.ref r2), none]) hl (by decide +kernel) (Nat.le_of_ble_eq_true rfl) rfl (fun Γ ad C Ce => ?_)
  unfold F_Lw_filter
  refine kw_aload_n C d_Lw_filter_0 rfl ?_
  refine kw_iconst (v := 0) C d_Lw_filter_1 (by decide) ?_
  refine kw_aload_n C d_Lw_filter_2 rfl ?_
  refine kw_iload_n C d_Lw_filter_3 rfl ?_
  refine kw_callVhi (As := [.int a1]) (cl' := 2) (sl' := 12) C (c_PF_filter hl n ids hr0 a1 σ) mi_Lw_58 v_PF_filter ⟨_, _, rfl⟩ hr0 ⟨Nat.le_of_ble_eq_true rfl, Nat.le_of_ble_eq_true rfl⟩ (Nat.le_of_ble_eq_true rfl) ⟨Nat.le_of_ble_eq_true rfl, Nat.le_of_ble_eq_true rfl⟩ ⟨rfl, rfl⟩ rfl d_Lw_filter_4 (fun E3 σ4 => kx_if (kx_catch (hs := hs_Lw_filter) C (hk_Lw_filter 4 (by decide) (by decide)) (by decide +kernel) (Or.inr ⟨3, rfl, d_Lw_filter_12, rfl⟩) (by decide) rfl (kw_iconst (v := 1) C d_Lw_filter_13 (by decide) (kw_iret C Ce rfl (by simp) (fun _ _ => rfl) (Nat.le_of_ble_eq_true rfl) (Nat.le_of_ble_eq_true rfl) rfl d_Lw_filter_14))) (fun _ => kx_if (kx_catch (hs := hs_Lw_filter) C (hk_Lw_filter 4 (by decide) (by decide)) (by decide +kernel) (Or.inr ⟨3, rfl, d_Lw_filter_15, rfl⟩) (by decide) rfl (kw_iconst (v := 2) C d_Lw_filter_16 (by decide) (kw_iret C Ce rfl (by simp) (fun _ _ => rfl) (Nat.le_of_ble_eq_true rfl) (Nat.le_of_ble_eq_true rfl) rfl d_Lw_filter_17))) (fun _ => kx_none))) (fun x2 σ1 => ?_)
  refine kw_i2l C d_Lw_filter_7 ?_
  refine kw_last C hr2 d_Lw_filter_8 (fun σ5 => ?_)
  refine kw_goto (tgt := 18) C d_Lw_filter_9 (by decide) ?_
  refine kw_iconst (v := 0) C d_Lw_filter_18 (by decide) ?_
  exact kw_iret C Ce rfl (by simp) (fun _ _ => rfl) (Nat.le_of_ble_eq_true rfl) (Nat.le_of_ble_eq_true rfl) rfl d_Lw_filter_19
/-! Lw_write -/
def rm_Lw_write : Room := { frames := 8, cells := 1, slots := 6, locals := 201 }
def hs_Lw_write : List kw_H := [((0, 9, 12, 29), "java/lang/IllegalStateException")]
theorem w_Lw_write : Cond.codeWith y_Lw_write method_15_code 4 (some .int) (hs_Lw_write.map Prod.fst) ∈ kw_Ts := (kw_m4 (i := 239) (by decide +kernel) (by decide +kernel))
theorem hk_Lw_write (pc : Nat) (h1 : 0 ≤ pc) (h2 : pc < 9) : kw_hok "PictureFileLaw" pc hs_Lw_write := List.forall_mem_cons.mpr ⟨⟨⟨h1, h2⟩, by decide, (kw_m4 (i := 101) (by decide +kernel) (by decide +kernel))⟩, fun _ h => nomatch h⟩
def F_Lw_write (n : Nat) (r0 : Nat) (a1 : Int32) (r2 : Nat) (σ : Mm) : Option (Int32 × Mm) :=
kf_h (F_PF_write n r0 a1 σ) (fun E3 σ4 => if E3 = "java/lang/IllegalStateException" then some (1, σ4) else none) fun x2 σ1 =>
kf_in 0 (mm_kd r2).2.2 <| kf_let (pK σ1 r2 (0 : Int32).toNatClampNeg x2.toInt64) fun σ5 =>
some (0, σ5)
theorem d_Lw_write_0 : decode method_15_code 0 = .ok (.aload_n 2, 1) := by decide +kernel
theorem d_Lw_write_1 : decode method_15_code 1 = .ok (.iconst 0, 1) := by decide +kernel
theorem d_Lw_write_2 : decode method_15_code 2 = .ok (.aload_n 0, 1) := by decide +kernel
theorem d_Lw_write_3 : decode method_15_code 3 = .ok (.iload_n 1, 1) := by decide +kernel
theorem d_Lw_write_4 : decode method_15_code 4 = .ok (.invokevirtual 61, 3) := by decide +kernel
theorem d_Lw_write_7 : decode method_15_code 7 = .ok (.i2l, 1) := by decide +kernel
theorem d_Lw_write_8 : decode method_15_code 8 = .ok (.lastore, 1) := by decide +kernel
theorem d_Lw_write_9 : decode method_15_code 9 = .ok (.goto 6, 3) := by decide +kernel
theorem d_Lw_write_12 : decode method_15_code 12 = .ok (.astore_n 3, 1) := by decide +kernel
theorem d_Lw_write_13 : decode method_15_code 13 = .ok (.iconst 1, 1) := by decide +kernel
theorem d_Lw_write_14 : decode method_15_code 14 = .ok (.ireturn, 1) := by decide +kernel
theorem d_Lw_write_15 : decode method_15_code 15 = .ok (.iconst 0, 1) := by decide +kernel
theorem d_Lw_write_16 : decode method_15_code 16 = .ok (.ireturn, 1) := by decide +kernel
set_option maxRecDepth 100000 in
set_option maxHeartbeats 4000000 in
theorem c_Lw_write {l0 : Launch} (hl : l0.stackTraces = false) (n : Nat) (ids : List Nat) {r0 : Nat} (hr0 : mm_ok ids r0 1 0) {r2 : Nat} (hr2 : mm_ok ids r2 4 0) (a1 : Int32) (σ : Mm) : kw_C l0 y_Lw_write (Cond.codeWith y_Lw_write method_15_code 4 (some .int) (hs_Lw_write.map Prod.fst) :: kw_Ts) rm_Lw_write kw_oi ids [] [.ref r0, .int a1, .ref r2] σ (F_Lw_write n r0 a1 r2 σ) := by
  refine kw_startH (hs := hs_Lw_write) (L0 := [some (.ref r0), some (.int a1), some (.ref r2), none]) hl (by decide +kernel) (Nat.le_of_ble_eq_true rfl) rfl (fun Γ ad C Ce => ?_)
  unfold F_Lw_write
  refine kw_aload_n C d_Lw_write_0 rfl ?_
  refine kw_iconst (v := 0) C d_Lw_write_1 (by decide) ?_
  refine kw_aload_n C d_Lw_write_2 rfl ?_
  refine kw_iload_n C d_Lw_write_3 rfl ?_
  refine kw_callVhi (As := [.int a1]) (cl' := 1) (sl' := 6) C (c_PF_write hl n ids hr0 a1 σ) mi_Lw_61 v_PF_write ⟨_, _, rfl⟩ hr0 ⟨Nat.le_of_ble_eq_true rfl, Nat.le_of_ble_eq_true rfl⟩ (Nat.le_of_ble_eq_true rfl) ⟨Nat.le_of_ble_eq_true rfl, Nat.le_of_ble_eq_true rfl⟩ ⟨rfl, rfl⟩ rfl d_Lw_write_4 (fun E3 σ4 => kx_if (kx_catch (hs := hs_Lw_write) C (hk_Lw_write 4 (by decide) (by decide)) (by decide +kernel) (Or.inr ⟨3, rfl, d_Lw_write_12, rfl⟩) (by decide) rfl (kw_iconst (v := 1) C d_Lw_write_13 (by decide) (kw_iret C Ce rfl (by simp) (fun _ _ => rfl) (Nat.le_of_ble_eq_true rfl) (Nat.le_of_ble_eq_true rfl) rfl d_Lw_write_14))) (fun _ => kx_none)) (fun x2 σ1 => ?_)
  refine kw_i2l C d_Lw_write_7 ?_
  refine kw_last C hr2 d_Lw_write_8 (fun σ5 => ?_)
  refine kw_goto (tgt := 15) C d_Lw_write_9 (by decide) ?_
  refine kw_iconst (v := 0) C d_Lw_write_15 (by decide) ?_
  exact kw_iret C Ce rfl (by simp) (fun _ _ => rfl) (Nat.le_of_ble_eq_true rfl) (Nat.le_of_ble_eq_true rfl) rfl d_Lw_write_16
/-! Lw_byteAt -/
def rm_Lw_byteAt : Room := { frames := 8, cells := 1, slots := 6, locals := 131 }
def hs_Lw_byteAt : List kw_H := [((0, 9, 12, 35), "java/lang/IndexOutOfBoundsException")]
theorem w_Lw_byteAt : Cond.codeWith y_Lw_byteAt method_16_code 4 (some .int) (hs_Lw_byteAt.map Prod.fst) ∈ kw_Ts := (kw_m5 (i := 109) (by decide +kernel) (by decide +kernel))
theorem hk_Lw_byteAt (pc : Nat) (h1 : 0 ≤ pc) (h2 : pc < 9) : kw_hok "PictureFileLaw" pc hs_Lw_byteAt := List.forall_mem_cons.mpr ⟨⟨⟨h1, h2⟩, by decide, (kw_m4 (i := 128) (by decide +kernel) (by decide +kernel))⟩, fun _ h => nomatch h⟩
def F_Lw_byteAt (n : Nat) (r0 : Nat) (a1 : Int32) (r2 : Nat) (σ : Mm) : Option (Int32 × Mm) :=
kf_h (F_PF_byteAt n r0 a1 σ) (fun E3 σ4 => if E3 = "java/lang/IndexOutOfBoundsException" then some (1, σ4) else none) fun x2 σ1 =>
kf_in 0 (mm_kd r2).2.2 <| kf_let (pK σ1 r2 (0 : Int32).toNatClampNeg x2.toInt64) fun σ5 =>
some (0, σ5)
theorem d_Lw_byteAt_0 : decode method_16_code 0 = .ok (.aload_n 2, 1) := by decide +kernel
theorem d_Lw_byteAt_1 : decode method_16_code 1 = .ok (.iconst 0, 1) := by decide +kernel
theorem d_Lw_byteAt_2 : decode method_16_code 2 = .ok (.aload_n 0, 1) := by decide +kernel
theorem d_Lw_byteAt_3 : decode method_16_code 3 = .ok (.iload_n 1, 1) := by decide +kernel
theorem d_Lw_byteAt_4 : decode method_16_code 4 = .ok (.invokevirtual 65, 3) := by decide +kernel
theorem d_Lw_byteAt_7 : decode method_16_code 7 = .ok (.i2l, 1) := by decide +kernel
theorem d_Lw_byteAt_8 : decode method_16_code 8 = .ok (.lastore, 1) := by decide +kernel
theorem d_Lw_byteAt_9 : decode method_16_code 9 = .ok (.goto 6, 3) := by decide +kernel
theorem d_Lw_byteAt_12 : decode method_16_code 12 = .ok (.astore_n 3, 1) := by decide +kernel
theorem d_Lw_byteAt_13 : decode method_16_code 13 = .ok (.iconst 1, 1) := by decide +kernel
theorem d_Lw_byteAt_14 : decode method_16_code 14 = .ok (.ireturn, 1) := by decide +kernel
theorem d_Lw_byteAt_15 : decode method_16_code 15 = .ok (.iconst 0, 1) := by decide +kernel
theorem d_Lw_byteAt_16 : decode method_16_code 16 = .ok (.ireturn, 1) := by decide +kernel
set_option maxRecDepth 100000 in
set_option maxHeartbeats 4000000 in
theorem c_Lw_byteAt {l0 : Launch} (hl : l0.stackTraces = false) (n : Nat) (ids : List Nat) {r0 : Nat} (hr0 : mm_ok ids r0 1 0) {r2 : Nat} (hr2 : mm_ok ids r2 4 0) (a1 : Int32) (σ : Mm) : kw_C l0 y_Lw_byteAt (Cond.codeWith y_Lw_byteAt method_16_code 4 (some .int) (hs_Lw_byteAt.map Prod.fst) :: kw_Ts) rm_Lw_byteAt kw_oi ids [] [.ref r0, .int a1, .ref r2] σ (F_Lw_byteAt n r0 a1 r2 σ) := by
  refine kw_startH (hs := hs_Lw_byteAt) (L0 := [some (.ref r0), some (.int a1), some (.ref r2), none]) hl (by decide +kernel) (Nat.le_of_ble_eq_true rfl) rfl (fun Γ ad C Ce => ?_)
  unfold F_Lw_byteAt
  refine kw_aload_n C d_Lw_byteAt_0 rfl ?_
  refine kw_iconst (v := 0) C d_Lw_byteAt_1 (by decide) ?_
  refine kw_aload_n C d_Lw_byteAt_2 rfl ?_
  refine kw_iload_n C d_Lw_byteAt_3 rfl ?_
  refine kw_callVhi (As := [.int a1]) (cl' := 1) (sl' := 6) C (c_PF_byteAt hl n ids hr0 a1 σ) mi_Lw_65 v_PF_byteAt ⟨_, _, rfl⟩ hr0 ⟨Nat.le_of_ble_eq_true rfl, Nat.le_of_ble_eq_true rfl⟩ (Nat.le_of_ble_eq_true rfl) ⟨Nat.le_of_ble_eq_true rfl, Nat.le_of_ble_eq_true rfl⟩ ⟨rfl, rfl⟩ rfl d_Lw_byteAt_4 (fun E3 σ4 => kx_if (kx_catch (hs := hs_Lw_byteAt) C (hk_Lw_byteAt 4 (by decide) (by decide)) (by decide +kernel) (Or.inr ⟨3, rfl, d_Lw_byteAt_12, rfl⟩) (by decide) rfl (kw_iconst (v := 1) C d_Lw_byteAt_13 (by decide) (kw_iret C Ce rfl (by simp) (fun _ _ => rfl) (Nat.le_of_ble_eq_true rfl) (Nat.le_of_ble_eq_true rfl) rfl d_Lw_byteAt_14))) (fun _ => kx_none)) (fun x2 σ1 => ?_)
  refine kw_i2l C d_Lw_byteAt_7 ?_
  refine kw_last C hr2 d_Lw_byteAt_8 (fun σ5 => ?_)
  refine kw_goto (tgt := 15) C d_Lw_byteAt_9 (by decide) ?_
  refine kw_iconst (v := 0) C d_Lw_byteAt_15 (by decide) ?_
  exact kw_iret C Ce rfl (by simp) (fun _ _ => rfl) (Nat.le_of_ble_eq_true rfl) (Nat.le_of_ble_eq_true rfl) rfl d_Lw_byteAt_16
/-! Lw_spoil -/
def rm_Lw_spoil : Room := { frames := 8, cells := 1, slots := 6, locals := 132 }
def hs_Lw_spoil : List kw_H := [((0, 6, 9, 35), "java/lang/IndexOutOfBoundsException")]
theorem w_Lw_spoil : Cond.codeWith y_Lw_spoil method_17_code 4 (some .int) (hs_Lw_spoil.map Prod.fst) ∈ kw_Ts := (kw_m5 (i := 120) (by decide +kernel) (by decide +kernel))
theorem hk_Lw_spoil (pc : Nat) (h1 : 0 ≤ pc) (h2 : pc < 6) : kw_hok "PictureFileLaw" pc hs_Lw_spoil := List.forall_mem_cons.mpr ⟨⟨⟨h1, h2⟩, by decide, (kw_m4 (i := 128) (by decide +kernel) (by decide +kernel))⟩, fun _ h => nomatch h⟩
def F_Lw_spoil (n : Nat) (r0 : Nat) (a1 : Int32) (a2 : Int32) (σ : Mm) : Option (Int32 × Mm) :=
kf_h (F_PF_spoil n r0 a1 a2 σ) (fun E3 σ4 => if E3 = "java/lang/IndexOutOfBoundsException" then some (1, σ4) else none) fun x2 σ1 =>
some (0, σ1)
theorem d_Lw_spoil_0 : decode method_17_code 0 = .ok (.aload_n 0, 1) := by decide +kernel
theorem d_Lw_spoil_1 : decode method_17_code 1 = .ok (.iload_n 1, 1) := by decide +kernel
theorem d_Lw_spoil_2 : decode method_17_code 2 = .ok (.iload_n 2, 1) := by decide +kernel
theorem d_Lw_spoil_3 : decode method_17_code 3 = .ok (.invokevirtual 68, 3) := by decide +kernel
theorem d_Lw_spoil_6 : decode method_17_code 6 = .ok (.goto 6, 3) := by decide +kernel
theorem d_Lw_spoil_9 : decode method_17_code 9 = .ok (.astore_n 3, 1) := by decide +kernel
theorem d_Lw_spoil_10 : decode method_17_code 10 = .ok (.iconst 1, 1) := by decide +kernel
theorem d_Lw_spoil_11 : decode method_17_code 11 = .ok (.ireturn, 1) := by decide +kernel
theorem d_Lw_spoil_12 : decode method_17_code 12 = .ok (.iconst 0, 1) := by decide +kernel
theorem d_Lw_spoil_13 : decode method_17_code 13 = .ok (.ireturn, 1) := by decide +kernel
set_option maxRecDepth 100000 in
set_option maxHeartbeats 4000000 in
theorem c_Lw_spoil {l0 : Launch} (hl : l0.stackTraces = false) (n : Nat) (ids : List Nat) {r0 : Nat} (hr0 : mm_ok ids r0 1 0) (a1 : Int32) (a2 : Int32) (σ : Mm) : kw_C l0 y_Lw_spoil (Cond.codeWith y_Lw_spoil method_17_code 4 (some .int) (hs_Lw_spoil.map Prod.fst) :: kw_Ts) rm_Lw_spoil kw_oi ids [] [.ref r0, .int a1, .int a2] σ (F_Lw_spoil n r0 a1 a2 σ) := by
  refine kw_startH (hs := hs_Lw_spoil) (L0 := [some (.ref r0), some (.int a1), some (.int a2), none]) hl (by decide +kernel) (Nat.le_of_ble_eq_true rfl) rfl (fun Γ ad C Ce => ?_)
  unfold F_Lw_spoil
  refine kw_aload_n C d_Lw_spoil_0 rfl ?_
  refine kw_iload_n C d_Lw_spoil_1 rfl ?_
  refine kw_iload_n C d_Lw_spoil_2 rfl ?_
  refine kw_callVhv (As := [.int a1, .int a2]) (cl' := 1) (sl' := 6) C (c_PF_spoil hl n ids hr0 a1 a2 σ) mi_Lw_68 v_PF_spoil ⟨_, _, rfl⟩ hr0 ⟨Nat.le_of_ble_eq_true rfl, Nat.le_of_ble_eq_true rfl⟩ (Nat.le_of_ble_eq_true rfl) ⟨Nat.le_of_ble_eq_true rfl, Nat.le_of_ble_eq_true rfl⟩ ⟨rfl, rfl⟩ rfl d_Lw_spoil_3 (fun E3 σ4 => kx_if (kx_catch (hs := hs_Lw_spoil) C (hk_Lw_spoil 3 (by decide) (by decide)) (by decide +kernel) (Or.inr ⟨3, rfl, d_Lw_spoil_9, rfl⟩) (by decide) rfl (kw_iconst (v := 1) C d_Lw_spoil_10 (by decide) (kw_iret C Ce rfl (by simp) (fun _ _ => rfl) (Nat.le_of_ble_eq_true rfl) (Nat.le_of_ble_eq_true rfl) rfl d_Lw_spoil_11))) (fun _ => kx_none)) (fun x2 σ1 => ?_)
  refine kw_goto (tgt := 12) C d_Lw_spoil_6 (by decide) ?_
  refine kw_iconst (v := 0) C d_Lw_spoil_12 (by decide) ?_
  exact kw_iret C Ce rfl (by simp) (fun _ _ => rfl) (Nat.le_of_ble_eq_true rfl) (Nat.le_of_ble_eq_true rfl) rfl d_Lw_spoil_13
/-! Lw_mend -/
def rm_Lw_mend : Room := { frames := 7, cells := 1, slots := 6, locals := 111 }
def hs_Lw_mend : List kw_H := [((0, 6, 9, 35), "java/lang/IndexOutOfBoundsException")]
theorem w_Lw_mend : Cond.codeWith y_Lw_mend method_18_code 4 (some .int) (hs_Lw_mend.map Prod.fst) ∈ kw_Ts := (kw_m5 (i := 127) (by decide +kernel) (by decide +kernel))
theorem hk_Lw_mend (pc : Nat) (h1 : 0 ≤ pc) (h2 : pc < 6) : kw_hok "PictureFileLaw" pc hs_Lw_mend := List.forall_mem_cons.mpr ⟨⟨⟨h1, h2⟩, by decide, (kw_m4 (i := 128) (by decide +kernel) (by decide +kernel))⟩, fun _ h => nomatch h⟩
def F_Lw_mend (n : Nat) (r0 : Nat) (a1 : Int32) (a2 : Int32) (σ : Mm) : Option (Int32 × Mm) :=
kf_h (F_PF_mend n r0 a1 a2 σ) (fun E3 σ4 => if E3 = "java/lang/IndexOutOfBoundsException" then some (1, σ4) else none) fun x2 σ1 =>
some (0, σ1)
theorem d_Lw_mend_0 : decode method_18_code 0 = .ok (.aload_n 0, 1) := by decide +kernel
theorem d_Lw_mend_1 : decode method_18_code 1 = .ok (.iload_n 1, 1) := by decide +kernel
theorem d_Lw_mend_2 : decode method_18_code 2 = .ok (.iload_n 2, 1) := by decide +kernel
theorem d_Lw_mend_3 : decode method_18_code 3 = .ok (.invokevirtual 72, 3) := by decide +kernel
theorem d_Lw_mend_6 : decode method_18_code 6 = .ok (.goto 6, 3) := by decide +kernel
theorem d_Lw_mend_9 : decode method_18_code 9 = .ok (.astore_n 3, 1) := by decide +kernel
theorem d_Lw_mend_10 : decode method_18_code 10 = .ok (.iconst 1, 1) := by decide +kernel
theorem d_Lw_mend_11 : decode method_18_code 11 = .ok (.ireturn, 1) := by decide +kernel
theorem d_Lw_mend_12 : decode method_18_code 12 = .ok (.iconst 0, 1) := by decide +kernel
theorem d_Lw_mend_13 : decode method_18_code 13 = .ok (.ireturn, 1) := by decide +kernel
set_option maxRecDepth 100000 in
set_option maxHeartbeats 4000000 in
theorem c_Lw_mend {l0 : Launch} (hl : l0.stackTraces = false) (n : Nat) (ids : List Nat) {r0 : Nat} (hr0 : mm_ok ids r0 1 0) (a1 : Int32) (a2 : Int32) (σ : Mm) : kw_C l0 y_Lw_mend (Cond.codeWith y_Lw_mend method_18_code 4 (some .int) (hs_Lw_mend.map Prod.fst) :: kw_Ts) rm_Lw_mend kw_oi ids [] [.ref r0, .int a1, .int a2] σ (F_Lw_mend n r0 a1 a2 σ) := by
  refine kw_startH (hs := hs_Lw_mend) (L0 := [some (.ref r0), some (.int a1), some (.int a2), none]) hl (by decide +kernel) (Nat.le_of_ble_eq_true rfl) rfl (fun Γ ad C Ce => ?_)
  unfold F_Lw_mend
  refine kw_aload_n C d_Lw_mend_0 rfl ?_
  refine kw_iload_n C d_Lw_mend_1 rfl ?_
  refine kw_iload_n C d_Lw_mend_2 rfl ?_
  refine kw_callVhv (As := [.int a1, .int a2]) (cl' := 1) (sl' := 6) C (c_PF_mend hl n ids hr0 a1 a2 σ) mi_Lw_72 v_PF_mend ⟨_, _, rfl⟩ hr0 ⟨Nat.le_of_ble_eq_true rfl, Nat.le_of_ble_eq_true rfl⟩ (Nat.le_of_ble_eq_true rfl) ⟨Nat.le_of_ble_eq_true rfl, Nat.le_of_ble_eq_true rfl⟩ ⟨rfl, rfl⟩ rfl d_Lw_mend_3 (fun E3 σ4 => kx_if (kx_catch (hs := hs_Lw_mend) C (hk_Lw_mend 3 (by decide) (by decide)) (by decide +kernel) (Or.inr ⟨3, rfl, d_Lw_mend_9, rfl⟩) (by decide) rfl (kw_iconst (v := 1) C d_Lw_mend_10 (by decide) (kw_iret C Ce rfl (by simp) (fun _ _ => rfl) (Nat.le_of_ble_eq_true rfl) (Nat.le_of_ble_eq_true rfl) rfl d_Lw_mend_11))) (fun _ => kx_none)) (fun x2 σ1 => ?_)
  refine kw_goto (tgt := 12) C d_Lw_mend_6 (by decide) ?_
  refine kw_iconst (v := 0) C d_Lw_mend_12 (by decide) ?_
  exact kw_iret C Ce rfl (by simp) (fun _ _ => rfl) (Nat.le_of_ble_eq_true rfl) (Nat.le_of_ble_eq_true rfl) rfl d_Lw_mend_13
